import java.lang.reflect.Method;
import java.lang.reflect.Parameter;
import java.util.ArrayList;
import java.util.Arrays;
import java.util.List;
import java.util.Map;
import java.util.Random;
import java.util.TreeMap;

/** Long runs of chosen-by-lot calls on the wall and on the second one: every answer is the same, and no call throws. */
public final class BesideSecondWallTest {
    private static final String[] PARTS = {
        "row put putReal get getReal raise join shift like count find mean flow test row put putReal",
        "row bed lay spot setSpot bare row bed lay put get",
        "thing says rack hang down hung asked haul hang haul",
        "row bed thing rack hang box isA taken used box isA taken",
        "card field fieldOf raiseField link along ring cardAsk copy thing link",
        "quotient table turned stock",
        "step wipe act raised stock gate signal row get step step step act act act raised raised",
        "reading word stuck hand rate run lake heard moved rule ruleAt reading reading reading reading run run lake lake heard",
        "right part has close right part part has",
        "hours ahead release routed regret chosen peak chance ahead ahead ahead ahead ahead ahead ahead release",
        "row put book pageByte damage tear twin open opened lost book forge forge put opened lost opened lost",
        "hours release regret chosen routed chance peak flood flood flood run",
    };
    private static final int[] ODD_INTS = {-2, 7, 8, 9, 10, 11, 12, 13, 14, 15, 16, 17, 20, 24, 25, 28, 31, 32, 33, 40, 41, 60, 64, 65, 99, 100, 101, 255, 256, 365, 366, 1000, 1001, 1000000001, Integer.MAX_VALUE, Integer.MIN_VALUE};
    private static final double[] ODD_REALS = {0.0, -0.0, 1.0, -1.0, 0.5, 0.125, 2.0, 30.0, 31.5, 40.0, 100.0, -100.0, 1000.0, -1000.0, 1000.5, 1000000.0, 1000001.0, 1680000.0, 960000.0, 1e300, -1e300, 3.5e38,
        Double.NaN, Double.POSITIVE_INFINITY, Double.NEGATIVE_INFINITY, Double.MIN_VALUE, -Double.MIN_VALUE, Double.MAX_VALUE, 2147483648.5, -2147483649.0, 9.3e18, -9.3e18, 65535.9, 1e-310};
    private static final Random random = new Random(20261118);
    private static final Map<String, Integer> good = new TreeMap<>(), refused = new TreeMap<>();
    private static double[] pool = new double[5];
    private static int wrong = 0;

    public static void main(String[] args) throws Exception {
        Map<String, Method> first = methodsOf(ReservoirWall.class), second = methodsOf(SecondWall.class);
        due("methods of the face", first.size() == 82 && second.keySet().containsAll(first.keySet()));
        int runs = args.length > 0 ? Integer.parseInt(args[0]) : 3000;
        for (int run = 0; run < runs && wrong == 0; run++) oneRun(run, first, second);
        for (String name : first.keySet()) {
            due(name + " was answered", good.getOrDefault(name, 0) > 0);
            due(name + " was refused", List.of("like", "close", "card", "chosen", "open", "signal").contains(name) || refused.getOrDefault(name, 0) > 0);
        }
        System.out.println(wrong == 0 ? runs + " runs are as the second wall's" : wrong + " things are wrong");
        if (wrong != 0) System.exit(1);
    }

    private static Map<String, Method> methodsOf(Class<?> type) {
        Map<String, Method> all = new TreeMap<>();
        for (Method method : type.getDeclaredMethods()) {
            if (java.lang.reflect.Modifier.isPublic(method.getModifiers())) all.put(method.getName(), method);
        }
        return all;
    }

    private static void oneRun(int run, Map<String, Method> first, Map<String, Method> second) throws Exception {
        ReservoirWall wall = new ReservoirWall();
        SecondWall other = new SecondWall();
        List<String> names = new ArrayList<>(List.of("raised", "about"));
        int parts = 1 + random.nextInt(3);
        for (int i = 0; i < parts; i++) names.addAll(Arrays.asList(PARTS[i == 0 ? run % PARTS.length : random.nextInt(PARTS.length)].split(" ")));
        for (int i = 0; i < pool.length; i++) pool[i] = random.nextInt(6) == 0 ? anyReal() : 9.0 + random.nextInt(12) * 0.1;
        List<String> story = new ArrayList<>();
        for (int call = 0; call < 512 && wrong == 0; call++) {
            String name = names.get(random.nextInt(names.size()));
            if (name.equals("forge")) call += forge(wall, other, story);
            else if (name.equals("flood")) call += flood(wall, other, story);
            else compare(first.get(name), second.get(name), wall, other, story);
        }
        if (wrong == 0) return;
        System.out.println("run " + run + ":");
        for (String line : story) System.out.println("  " + line);
    }

    private static void compare(Method one, Method two, ReservoirWall wall, SecondWall other, List<String> story) throws Exception {
        Object[] args = argumentsOf(one);
        Object got = one.invoke(wall, args), want = two.invoke(other, args);
        story.add(one.getName() + Arrays.toString(args) + " = " + got);
        long answer = ((Number) got).longValue();
        (answer <= -2000000001L && answer >= -2000000018L ? refused : good).merge(one.getName(), 1, Integer::sum);
        if (!got.equals(want)) due(one.getName() + Arrays.toString(args) + " answered " + got + ", the second wall " + want, false);
    }

    /** A page is made another one's double, then altered, and its SUM mended: UNLIKE pages, NUMBERS 0 and n above 24 come of it. */
    private static int forge(ReservoirWall wall, SecondWall other, List<String> story) {
        int from = random.nextInt(6), to = random.nextInt(6), at = random.nextInt(random.nextBoolean() ? 3 : 28);
        wall.twin(from, to);
        other.twin(from, to);
        int mask = random.nextInt(3) == 0 ? wall.pageByte(to, at) : 1 + random.nextInt(at == 2 ? 31 : 255);
        xor(wall, other, to, at, mask);
        int s = 0;
        for (int i = 0; i < 28; i++) s = Integer.rotateLeft(s ^ other.pageByte(to, i), 7) * 0xC2B2AE3D;
        for (int i = 0; i < 4; i++) xor(wall, other, to, 28 + i, other.pageByte(to, 28 + i) ^ s >>> 24 - 8 * i & 255);
        story.add("forged " + to + " after " + from + " at " + at + " by " + mask);
        return 12;
    }

    private static void xor(ReservoirWall wall, SecondWall other, int page, int i, int mask) {
        if (mask == 0) return;
        if (wall.damage(page, i, mask) != other.damage(page, i, mask)) due("damage", false);
    }

    private static int flood(ReservoirWall wall, SecondWall other, List<String> story) {
        int run = random.nextInt(6), most = random.nextBoolean() ? 300000 : 3000;
        for (int hour = 0; hour < 12; hour++) {
            long bits = Double.doubleToLongBits(random.nextInt(most) + random.nextDouble());
            if (wall.ahead(run, hour, bits) != other.ahead(run, hour, bits)) due("ahead", false);
        }
        story.add("flooded " + run);
        return 12;
    }

    private static Object[] argumentsOf(Method method) {
        Parameter[] parameters = method.getParameters();
        Object[] args = new Object[parameters.length];
        for (int i = 0; i < args.length; i++) {
            String name = parameters[i].getName();
            if (parameters[i].getType() == boolean.class) args[i] = random.nextBoolean();
            else if (parameters[i].getType() == int.class) args[i] = anInt(method.getName(), name);
            else if (name.equals("v") || name.equals("a") || name.equals("b")) args[i] = whole();
            else if (name.equals("n") || name.equals("most")) args[i] = litres();
            else args[i] = bits(real(method.getName(), name));
        }
        return args;
    }

    private static int anInt(String method, String name) {
        int lot = random.nextInt(100);
        if (lot < 3) return -1;
        if (lot < 5) return ODD_INTS[random.nextInt(ODD_INTS.length)];
        switch (name) {
            case "kind": return method.equals("bed") ? new int[] {1, 3, 6}[random.nextInt(3)] : random.nextInt(method.equals("row") ? 8 : 14);
            case "n": return method.equals("along") ? random.nextInt(random.nextBoolean() ? 4 : 101) : random.nextInt(random.nextInt(4) == 0 ? 17 : 6);
            case "cells": return random.nextInt(6) - 1;
            case "mask": return 1 + random.nextInt(255);
            case "what": return method.equals("opened") && random.nextBoolean() ? 10 + random.nextInt(8) : random.nextInt(method.equals("lake") ? 14 : method.equals("about") ? 11 : 5);
            case "op": return random.nextInt(method.equals("step") ? 10 : 6);
            case "a": return method.equals("step") ? random.nextInt(random.nextBoolean() ? 9 : 3) : random.nextInt(8);
            case "b": return method.equals("step") ? random.nextInt(random.nextBoolean() ? 10 : 4) - random.nextInt(2) : random.nextInt(8);
            case "c": case "d": return random.nextInt(9) - 1;
            case "built": case "as": return random.nextInt(10);
            case "load": case "share": return random.nextInt(1001);
            case "rank": return random.nextInt(3);
            case "from": return method.equals("rule") ? random.nextInt(10) : method.equals("twin") ? random.nextInt(32) : random.nextInt(6);
            case "to": return method.equals("rule") ? random.nextInt(366) : method.equals("twin") ? random.nextInt(32) : random.nextInt(6);
            case "day": return random.nextInt(366);
            case "k": return random.nextInt(method.equals("table") ? 41 : 6);
            case "hour": return random.nextInt(12);
            case "plan": return random.nextInt(8);
            case "strips": return random.nextInt(6);
            case "page": return random.nextInt(random.nextBoolean() ? 4 : 32);
            case "i": return random.nextInt(method.equals("tear") || method.equals("damage") || method.equals("pageByte") ? 33 : method.equals("signal") ? 61 : 5);
            default: return random.nextInt(6);
        }
    }

    private static long whole() {
        switch (random.nextInt(5)) {
            case 0: return random.nextInt(5) - 2;
            case 1: return random.nextLong();
            case 2: return random.nextInt();
            case 3: return random.nextInt(4) == 0 ? Long.MIN_VALUE : random.nextInt(4) == 0 ? Long.MAX_VALUE : random.nextInt(100000);
            default: return 1L << random.nextInt(64);
        }
    }

    private static long litres() {
        switch (random.nextInt(8)) {
            case 0: return 1000000000000000L + random.nextInt(2);
            case 1: return 1000000000000L + random.nextInt(2);
            case 2: return random.nextInt(3) - 1;
            case 3: return (long) (random.nextDouble() * 1e15);
            case 4: return (long) (random.nextDouble() * 1e12);
            default: return random.nextInt(10000);
        }
    }

    private static double real(String method, String name) {
        if (random.nextInt(20) == 0) return anyReal();
        switch (method) {
            case "reading": return pool[random.nextInt(pool.length)];
            case "word": return random.nextDouble() * 40.0;
            case "hand": case "rate": return random.nextInt(4) == 0 ? random.nextInt(9) * 0.125 : random.nextDouble();
            case "run": return name.equals("rain") ? random.nextDouble() * (random.nextInt(5) == 0 ? 1000000.0 : 5000.0) : random.nextDouble() * 60.0 - 30.0;
            case "rule": return name.equals("low") ? random.nextInt(12) : name.equals("high") ? random.nextInt(40) : random.nextDouble() * 4000.0;
            case "ruleAt": return random.nextDouble() * 40.0;
            case "turned": return random.nextInt(3) == 0 ? 1000.0 * random.nextInt(1681) : random.nextDouble() * 1700000.0;
            case "release": case "ahead": case "chance": return random.nextInt(6) == 0 ? random.nextInt(3) * 1000.0 : random.nextDouble() * 300000.0;
            default: return anyReal();
        }
    }

    private static double anyReal() {
        switch (random.nextInt(5)) {
            case 0: return Double.longBitsToDouble(random.nextLong());
            case 1: return random.nextInt(21) - 10;
            case 2: return (random.nextDouble() - 0.5) * 200000.0;
            default: return ODD_REALS[random.nextInt(ODD_REALS.length)];
        }
    }

    private static long bits(double d) {
        if (d != d && random.nextBoolean()) return (random.nextBoolean() ? 0x7FF0000000000000L : 0xFFF0000000000000L) | 1L + random.nextInt(1000);
        return Double.doubleToRawLongBits(d);
    }

    private static void due(String what, boolean holds) {
        if (holds) return;
        wrong++;
        System.out.println("not as due: " + what);
    }
}
