/** Promises 25 to 27 and 29: kinds of roofs and their trace, images. */
public final class KindsTest {
    private static final String TOWN = "sort 10 4;sort 3 0;house 0 0;house 1 0;house 2 0;house 1 1;roof 0 0;roof 1 1;"
        + "wind left;";

    public static void main(String[] args) {
        rate();
        trace();
        keepAndBack();
        imagesRefused();
        imagesStay();
        Due.finish();
    }

    private static void rate() {
        UnlikeRoofs x = Due.town(TOWN);
        int[][] due = {{10, 14, 9, 28, 12, 10}, {3, 3, 0, 6, 3, 2}, {0, 0, -1, 0, 2, -2}, {0, 0, -1, 0, 2, -3}};
        for (int h = 0; h < due.length; h++) {
            for (int kind = 0; kind <= 5; kind++) {
                Due.is("rate " + kind + " " + h, x.rate(kind, h), due[h][kind]);
            }
        }
        x.wind(0);
        Due.is("tarred without wind", x.rate(4, 0), 9);
        Due.is("kind 6", x.rate(6, 0), -1000000);
        Due.is("kind -1", x.rate(-1, 0), -1000000);
        Due.is("house 4", x.rate(0, 4), -1000000);
        Due.is("house -1", x.rate(0, -1), -1000000);
    }

    private static void trace() {
        UnlikeRoofs x = Due.town(TOWN);
        long[] added = {1, 11, 101, 1011, 10101, 100001};
        long sum = 0;
        for (int kind = 0; kind <= 5; kind++) {
            x.rate(kind, 3);
            sum += added[kind];
            Due.is("trace behind kind " + kind, x.trace(), sum);
        }
        x.rate(6, 0);
        x.rate(0, 4);
        x.rate(-1, -1);
        Due.is("refusals leave no trace", x.trace(), sum);
        x.keep(0);
        x.rate(0, 0);
        x.back(0);
        Due.is("the trace goes on behind back", x.trace(), sum + 1);
        x.town();
        Due.is("the trace goes on behind town", x.trace(), sum + 1);
        UnlikeRoofs much = Due.town(TOWN);
        for (int i = 0; i < 400; i++) {
            much.rate(5, 0);
        }
        Due.is("a long trace", much.trace(), 40000400);
    }

    private static void keepAndBack() {
        UnlikeRoofs x = Due.town(TOWN);
        x.lot(5);
        x.saw(1, 7);
        x.saw(0, 0);
        Due.is("keep 0", x.keep(0), 2);
        x.roof(0, -9);
        x.roof(3, 1);
        x.wind(2);
        x.lot(6);
        x.forget();
        x.saw(0, 0);
        Due.is("keep 1", x.keep(1), 1);
        Due.type(x, "abc");
        Due.is("back 0", x.back(0), 2);
        Due.is("roof 0 is back", x.house(0, 2), 0);
        Due.is("roof 3 is back", x.house(3, 2), -9);
        Due.is("seen is back", x.count(4), 2);
        Due.is("what was seen is back", x.began(), 0);
        Due.is("the text is not kept", x.count(5), 3);
        Due.is("the lot is back", x.lot(9), 5);
        Due.is("the wind is back", x.wind(0), 3);
        Due.is("back 1", x.back(1), 1);
        Due.is("roof 0 of image 1", x.house(0, 2), -9);
        Due.is("roof 3 of image 1", x.house(3, 2), 1);
        Due.is("lot of image 1", x.lot(9), 6);
        Due.is("wind of image 1", x.wind(0), 2);
        x.roof(0, 0);
        Due.is("seen of image 1", x.began(), 1);
    }

    private static void imagesRefused() {
        UnlikeRoofs x = Due.town(TOWN);
        Due.is("keep -1", x.keep(-1), -1);
        Due.is("keep 2", x.keep(2), -1);
        Due.is("back 2", x.back(2), -1);
        Due.is("back -1", x.back(-1), -1);
        Due.is("back of none", x.back(0), -2);
        x.keep(0);
        Due.is("back of the other", x.back(1), -2);
        Due.is("back", x.back(0), 0);
    }

    private static void imagesStay() {
        UnlikeRoofs x = Due.town(TOWN);
        x.saw(2, 2);
        x.keep(0);
        x.saw(2, 3);
        x.back(0);
        x.saw(3, 3);
        x.roof(0, -9);
        Due.is("an image is not what is told now", x.back(0), 1);
        Due.is("its roof", x.house(0, 2), 0);
        x.forget();
        Due.is("nothing seen", x.keep(0), 0);
        x.saw(1, 1);
        Due.is("kept anew", x.back(0), 0);
    }
}
