/** Promises 1 to 6: a new object, and the tape. */
final class TapeTest {
  private TapeTest() {}

  public static void main(String[] args) {
    newObject();
    typing();
    putting();
    pieces();
    sums();
    Check.end();
  }

  private static void newObject() {
    Lanternserver x = new Lanternserver();
    Check.due("hosts of a new object", x.count(1), 1);
    for (int what = 0; what <= 15; what++) {
      if (what != 1) Check.due("count " + what + " of a new object", x.count(what), 0);
    }
    Check.due("the server's MTU", x.setMtu(0, 600), 600);
    Check.due("an empty wire", x.deliver(0), Lanternserver.NONE);
    Check.isTrue("agrees", x.agrees());
    Check.due("errors", x.errors(), 0);
    Check.dueReal("share of none", x.deliveredShare(), 0.0);
    Check.dueReal("mean of none", x.meanAnswer(), 0.0);
    Check.noIndex("a file of none", () -> x.fileAt(0, 0));
    Check.noIndex("a request of none", () -> x.servedAt(0, 0));
  }

  private static void typing() {
    Lanternserver x = new Lanternserver();
    Check.due("nothing typed", x.type(0, 0, 0, 0, 0, 0), 0);
    Check.due("two numbers", x.type(0x0102030405060708L, 0x00ff000000000001L, 0, 0, 0, 0), 10);
    // ff is alone in an odd place: the sum shows the order of the bytes.
    Check.due("the order of bytes", x.sum(0, 10), ~(0x0102 + 0x0304 + 0x0506 + 0x0708 + 0xff01 - 65535) & 65535);
    Check.due("a negative number has 8 bytes", x.type(-1, 0, 0, 0, 0, 0), 18);
    x.clear();
    x.put(1, 300);
    x.put(1, 60);
    Check.due("six full numbers less 8", x.type(-1, -1, -1, -1, -1, 0), 400);
    Check.noState("one byte too many", () -> x.type(0, 0, 0, 0, 0, 1));
    Check.due("nothing at the end", x.type(0, 0, 0, 0, 0, 0), 400);
    for (int k = 0; k < 6; k++) {
      long[] n = new long[6];
      n[k] = -1;
      x.clear();
      x.put(1, 300);
      x.put(1, 93);
      Check.noState("number " + k, () -> x.type(n[0], n[1], n[2], n[3], n[4], n[5]));
      x.clear();
      x.put(1, 300);
      x.put(1, 92);
      Check.due("number " + k, x.type(n[0], n[1], n[2], n[3], n[4], n[5]), 400);
      Check.due("its bytes", x.sum(398, 400), 0);
    }
    Check.due("the length stays", x.count(15), 400);
  }

  private static void putting() {
    Lanternserver x = new Lanternserver();
    Check.due("a zero byte", x.put(0, 1), 1);
    Check.due("300 bytes", x.put(255, 300), 301);
    Check.noArgument("value above", () -> x.put(256, 1));
    Check.noArgument("value below", () -> x.put(-1, 1));
    Check.noArgument("none", () -> x.put(1, 0));
    Check.noArgument("301", () -> x.put(1, 301));
    Check.noArgument("both wrong is an argument", () -> x.put(256, 300));
    Check.noState("100 are too many", () -> x.put(1, 100));
    Check.due("99 fit", x.put(1, 99), 400);
    Check.due("length before", x.clear(), 400);
    Check.due("length before, again", x.clear(), 0);
  }

  private static void pieces() {
    String[] texts = {
      "GET /a HTTP/1.1\r\nHost: h\r\n\r\n",
      "PUT /a HTTP/1.1\r\nHost: h\r\nContent-Length: 5\r\n\r\nhello",
      "GET / HTTP/1.0\r\n\r\n",
      "POST /a HTTP/1.1\r\nHost: h\r\nTransfer-Encoding: chunked\r\n\r\n3\r\nabc\r\n0\r\n\r\n",
      "DELETE /a HTTP/1.1\r\nHost: h\r\nConnection: close\r\n\r\n",
      "GET /a HTTP/1.1\r\nHost: h\r\nRange: bytes=1-3\r\nIf-None-Match: \"v2\"\r\n\r\n",
    };
    for (int which = 0; which < texts.length; which++) {
      Lanternserver x = new Lanternserver();
      String text = texts[which];
      Check.due("length of piece " + which, x.piece(which), text.length());
      // The sum over two bytes tells both of them.
      for (int k = 0; k + 2 <= text.length(); k++) {
        Check.due("piece " + which + " at " + k, x.sum(k, k + 2),
            ~(text.charAt(k) << 8 | text.charAt(k + 1)) & 65535);
      }
      x.clear();
      x.put(1, 300);
      x.put(1, 100 - text.length() + 1);
      int piece = which;
      Check.noState("no room for piece " + which, () -> x.piece(piece));
      Check.due("nothing changed", x.count(15), 401 - text.length());
      x.clear();
      x.put(1, 300);
      x.put(1, 100 - text.length());
      Check.due("just room for piece " + which, x.piece(which), 400);
    }
    Lanternserver x = new Lanternserver();
    Check.noArgument("piece 6", () -> x.piece(6));
    Check.noArgument("piece -1", () -> x.piece(-1));
  }

  private static void sums() {
    Lanternserver x = new Lanternserver();
    Check.due("an empty sum", x.sum(0, 0), 65535);
    x.put(255, 300);
    Check.due("carries", x.sum(0, 300), 0);
    Check.due("an odd one is the higher byte", x.sum(0, 1), 255);
    x.clear();
    x.type(0x0001f203f4f5f6f7L, 0, 0, 0, 0, 0);
    Check.due("bytes 01 f2 03 f4 f5 f6 f7", x.sum(0, 7), ~(0x01f2 + 0x03f4 + 0xf5f6 + 0xf700 - 65535) & 65535);
    Check.noIndex("below 0", () -> x.sum(-1, 2));
    Check.noIndex("turned", () -> x.sum(3, 2));
    Check.noIndex("beyond", () -> x.sum(0, 8));
    Check.noIndex("far beyond", () -> x.sum(Integer.MAX_VALUE, Integer.MAX_VALUE));
    Check.due("at the end", x.sum(7, 7), 65535);
    Check.due("the tape stays", x.count(15), 7);
  }
}
