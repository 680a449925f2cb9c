import java.util.Arrays;
import java.util.Random;

/** Promises 28 to 32: who lies out, roads and trailers, beside a plain look at all shares. */
public final class TrailerTest {
    public static void main(String[] args) {
        out();
        roads();
        shares();
        Random random = new Random(9);
        for (int i = 0; i < 60; i++) {
            randomLand(random);
        }
        Due.close();
    }

    private static void out() {
        SoarHouse house = new SoarHouse();
        Due.is("none", house.fetched(), 0);
        Due.is("cell 64", house.out(64), -1);
        Due.is("cell -1", house.out(-1), -1);
        for (int i = 1; i <= 9; i++) {
            Due.is("out", house.out(7), i);
        }
        Due.is("a tenth", house.out(7), -1);
        Due.is("nine", house.about(8), 9);
        Due.is("fetched", house.fetched(), 9);
        Due.is("fetched again", house.fetched(), 0);
        Due.is("none", house.about(8), 0);
        Due.is("out again", house.out(0), 1);
    }

    private static void roads() {
        SoarHouse house = Due.on("road 0 0 1 0 10; road 1 0 2 0 20; road 0 0 2 0 31; road 2 0 3 0 99; road 2 0 3 0 5;"
            + "road 7 7 6 7 1;");
        Due.is("both ways", house.minutes(1, 0), 10);
        Due.is("two roads", house.minutes(0, 2), 30);
        Due.is("the shorter of two", house.minutes(3, 0), 35);
        Due.is("no way", house.minutes(0, 63), -1);
        Due.is("no road at all", house.minutes(0, 40), -1);
        Due.is("the same", house.minutes(40, 40), 0);
        Due.is("apart", house.minutes(62, 63), 1);
        Due.is("cell 64", house.minutes(0, 64), -1);
        Due.is("cell 64", house.minutes(64, 64), -1);
        Due.is("cell -1", house.minutes(-1, 0), -1);
        StringBuilder line = new StringBuilder();
        for (int i = 19; i >= 0; i--) {
            line.append("road ").append(i % 8).append(' ').append(i / 8).append(' ').append((i + 1) % 8).append(' ')
                .append((i + 1) / 8).append(" 99;");
        }
        Due.is("twenty in a line", Due.on(line.toString()).minutes(0, 20), 1980);
    }

    private static void shares() {
        SoarHouse house = Due.on("road 0 0 1 0 10; road 0 0 2 0 20;");
        Due.is("none out", house.home(0, 1), 0);
        Due.is("none out, no such cell", house.home(64, 1), -1);
        Due.is("none out, cell -1", house.home(-1, 1), -1);
        Due.is("none out, no trailers", house.home(0, 0), -1);
        Due.is("none out, four trailers", house.home(0, 4), -1);
        Due.is("none out, no trailer", house.trailer(0, 1, 0), -1);
        house.out(0);
        Due.is("at home", house.home(0, 3), 0);
        Due.is("its trailer", house.trailer(0, 3, 0), 0);
        house.out(1);
        house.out(0);
        Due.is("three", house.home(0, 2), 20);
        Due.is("the first trailer", house.trailer(0, 2, 1), 0);
        Due.is("the first trailer", house.trailer(0, 2, 2), 0);
        Due.is("none -1", house.trailer(0, 2, -1), -1);
        Due.is("none 3", house.trailer(0, 2, 3), -1);
        house.out(2);
        Due.is("a longer one", house.home(0, 2), 40);
        Due.is("by the next trailer", house.trailer(0, 2, 3), 1);
        house.out(63);
        Due.is("one can't be come to", house.home(0, 3), -1);
        Due.is("nor its trailer", house.trailer(0, 3, 0), -1);
    }

    private static void randomLand(Random random) {
        StringBuilder text = new StringBuilder();
        int around = 4 + random.nextInt(6);
        for (int i = random.nextInt(21); i > 0; i--) {
            int a = random.nextInt(around);
            int b = random.nextInt(around);
            if (a != b) {
                text.append("road ").append(a % 8).append(' ').append(a / 8).append(' ').append(b % 8).append(' ')
                    .append(b / 8).append(' ').append(1 + random.nextInt(99)).append(';');
            }
        }
        SoarHouse house = Due.on(text.toString());
        int[] cells = new int[random.nextInt(10)];
        for (int i = 0; i < cells.length; i++) {
            cells[i] = random.nextInt(around);
            house.out(cells[i]);
        }
        for (int trailers = 1; trailers <= 3; trailers++) {
            compare(house, cells, random.nextInt(around), trailers);
        }
    }

    private static void compare(SoarHouse house, int[] cells, int home, int trailers) {
        boolean all = true;
        for (int cell : cells) {
            all &= house.minutes(home, cell) >= 0;
        }
        int ways = 1;
        for (int i = 0; i < cells.length; i++) {
            ways *= trailers;
        }
        int best = Integer.MAX_VALUE;
        int[] first = new int[cells.length];
        for (int way = 0; all && way < ways; way++) {
            int[] loads = new int[trailers];
            int[] share = new int[cells.length];
            int rest = way;
            for (int i = cells.length - 1; i >= 0; i--) {
                share[i] = rest % trailers;
                rest /= trailers;
                loads[share[i]] += 2 * house.minutes(home, cells[i]);
            }
            int longest = Arrays.stream(loads).max().getAsInt();
            if (longest < best) {
                best = longest;
                first = share;
            }
        }
        String name = Arrays.toString(cells) + " from " + home + " by " + trailers;
        Due.is("home " + name, house.home(home, trailers), all ? best : -1);
        for (int k = 0; k <= cells.length; k++) {
            Due.is("trailer " + name + " " + k, house.trailer(home, trailers, k), all && k < cells.length ? first[k] : -1);
        }
    }
}
