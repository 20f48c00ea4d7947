import java.util.Arrays;

/** The edges of promise 8; above each test stand the document's words that it holds the program to. */
public final class HashEdgesTest {
    /** 114 bytes of SHAKE256, by CPython's hashlib, of messages of so many bytes (see message): empty, about a block, full. */
    private static final String[][] SHAKE = {
        {"0", "46b9dd2b0ba88d13233b3feb743eeb243fcd52ea62b81b82b50c27646ed5762fd75dc4ddd8c0f200cb05019d67b592f6fc821c49479ab48640"
                + "292eacb3b7c4be141e96616fb13957692cc7edd0b45ae3dc07223c8e92937bef84bc0eab862853349ec75546f58fb7c2775c38462c5010d846"},
        {"1", "8b460bfca6ff177d561d0afc883df654567816bd83143f2397703f794ba3e1b0f28212c82b002dff749c9fee75bf71c0585fc763e02685c22e"
                + "6df2837abb9cfc284e77d1817b5412f6bf6de1149fc5ee9ca57b124cc68b510f53b638727cf2ff243bc3ce95b044366188b517d76a26693c0d"},
        {"134", "978511df052cc9942b82748be3b7d92e3a72a17bfc9c9011f9c57ca21120cd9fac358e47bf9b360d7d2598f16fe99da7546fe18ebeff5c72c1"
                + "5bb1981888a89649a25c78d3a8d14f71aa8f56450146bebeab71c115bb34b83d8c162de7ed124679fd01bcdd24ba677370813f5664f384a78c"},
        {"135", "91a012dfba252a0c943a207d912ec0cbd70eb57be3c8ae2ecb30b0b165b9165acc95bfb5efaa1b542c8b0ee794ea08714b70fdf9de402e0ea4"
                + "b583c8476d6b8a40a8422be75d477535acbdd3e8c3e7bf0dbc87d1b70bd9314ddc96420f736eeff96e6d9ce123d1cce7ed63198c96deeea9db"},
        {"136", "00b2f7b0b8a97b352f3b433dbd43f14a2a19f8f92d7af1e2c066b7c14dc9fa081b9feb878216ed29c786c2bf8c9a0fc3fd87c0117fda5cbf51"
                + "a6ef6db3bc7f00d321e9795ba205d0149296aaa090f2c99d37f8159ab2cb7f6ef2a42d0fdce10859cf9fee32830d6f31f958ae50d97605c594"},
        {"137", "a14eb805b75118db2af0f1cdbe020ac2eb4016d1f67b9d408a37a7ac1fc5cf716577b0c5abf437787e897eb69946fba0dc10920d49cde899a7"
                + "d1e4187075fcc52900b5c15dd0e32089d7fe61420a077568a05ec79aff0d48372401b87c2706689c695fd94c4f68d7a2ef30564dd8e25a1c34"},
        {"255", "7c281c1771fc22eb7e48c785dbcff62b28ad2dff7b977ffbb422de2cc8b8eae523fef6b6e1c02a829573691239b30dde9f17d450c6f8304013"
                + "b4997b5a23ef1b066775be721d0e3a3d8e87a52f0af1c272ceaf1624b0dc77c7fcf1098a2781fb33651579aa2267bb715104bd41f1b0391c06"},
        {"256", "d0b200dbca0434799717f40dc67707750959d76234b3ee85a172d16957294a372cf13e97f75d3a337b5f0bb6448a37e3ff095044f11e7a99c9"
                + "5cc5c00c533be211254f827cf8314d1c9b37d8dfe84e04006d689b5ed8f362dc92fe89105d48c50b6864909a91c298e48aeac0c18eb4c8a254"},
    };

    public static void main(String[] args) {
        shakeGivesNoneTo114Bytes();
        shakeOfMessages();
        shakeRefused();
        shaLooksAtNoCount();
        shaOfMessages();
        hashLeavesMessage();
        Check.finish();
    }

    private static byte[] message(int n) {
        byte[] message = new byte[n];
        for (int i = 0; i < n; i++) {
            message[i] = (byte) (11 * i + 5);
        }
        return message;
    }

    private static CurveSuite fed(int n) {
        CurveSuite x = new CurveSuite();
        Check.feed(x, false, message(n));
        return x;
    }

    /** "n bytes (0 .. 114) of SHAKE256: to OUT": a shorter answer is the beginning of a longer one. */
    private static void shakeGivesNoneTo114Bytes() {
        byte[] whole = Check.bytes(SHAKE[1][1]);
        for (int n = 0; n <= 114; n++) {
            CurveSuite x = fed(1);
            x.hash(true, n);
            Check.same("size of " + n + " bytes", n, x.size());
            Check.same(n + " bytes", Arrays.copyOf(whole, n), Check.out(x));
        }
    }

    /** "SHAKE256" of an empty MESSAGE and a full one, and of one that just fills a block of 136 bytes. */
    private static void shakeOfMessages() {
        for (String[] row : SHAKE) {
            CurveSuite x = fed(Integer.parseInt(row[0]));
            x.hash(true, 114);
            Check.same("SHAKE256 of " + row[0] + " bytes", Check.bytes(row[1]), Check.out(x));
        }
    }

    /** "IllegalArgumentException: n is not so": OUT stays what the latest call gave, and the next call is as ever. */
    private static void shakeRefused() {
        for (int had : new int[] {0, 1, 114}) {
            CurveSuite x = fed(1);
            x.hash(true, had);
            for (int n : Check.outside(0, 114)) {
                Check.illegal("SHAKE256 of " + n + " bytes", () -> x.hash(true, n));
                Check.same("OUT is left", had, x.size());
            }
            Check.same("OUT is left", Arrays.copyOf(Check.bytes(SHAKE[1][1]), had), Check.out(x));
            x.hash(true, 114);
            Check.same("114 bytes behind a refused call", Check.bytes(SHAKE[1][1]), Check.out(x));
        }
    }

    /** "SHA-512 of MESSAGE (n is not looked at)". */
    private static void shaLooksAtNoCount() {
        for (int n : new int[] {-1, 0, 1, 63, 64, 65, 114, 115, 256, Integer.MIN_VALUE, Integer.MAX_VALUE}) {
            CurveSuite x = fed(3);
            x.hash(true, 114);
            x.hash(false, n);
            Check.same("SHA-512 with n " + n, 64, x.size());
            Check.same("SHA-512 with n " + n, Reference.sha512(message(3)), Check.out(x));
        }
    }

    /** "SHA-512" of an empty MESSAGE and a full one, and where the length still fits a block of 128 bytes and where not. */
    private static void shaOfMessages() {
        for (int n : new int[] {0, 1, 111, 112, 127, 128, 129, 239, 240, 255, 256}) {
            CurveSuite x = fed(n);
            x.hash(false, 0);
            Check.same("SHA-512 of " + n + " bytes", Reference.sha512(message(n)), Check.out(x));
        }
    }

    /** "to OUT": and MESSAGE stays, empty, full or between. */
    private static void hashLeavesMessage() {
        for (int n : new int[] {0, 100, 256}) {
            CurveSuite x = fed(n);
            for (int again = 0; again < 2; again++) {
                x.hash(true, 114);
                x.hash(false, 0);
                Check.same("SHA-512 once more", Reference.sha512(message(n)), Check.out(x));
            }
            if (n == 256) {
                Check.wrongState("MESSAGE is still full", () -> x.feed(false, 0, 1));
            } else {
                Check.same("MESSAGE is still as long", n + 1, x.feed(false, 0, 1));
            }
        }
    }
}
