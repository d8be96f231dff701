/** The edges that section 9 and promises 32 to 35 name, each under the sentence that names it. */
final class RequestEdgeTest {
  private static final String H = RequestTest.H;
  private static final String CHUNKS = "PUT /a" + H + "Transfer-Encoding: chunked\r\n\r\n";

  /** A set of bytes. */
  private interface Bytes {
    boolean has(int value);
  }

  private RequestEdgeTest() {}

  public static void main(String[] args) {
    everyByteOfTheHead();
    everyByteOfTheBody();
    everyByteAtALimit();
    limitsOfTheNextOne();
    valuesWithoutBlanks();
    valuesWithColons();
    digits();
    namesOfMethods();
    connectionsThatStay();
    namesThatMeanNothing();
    optionsOfTargets();
    everyRange();
    tagsOfThreeDigits();
    conditionsWithoutAFile();
    eightFiles();
    sizesByChunks();
    goneFiles();
    numbersOnConnections();
    sixHundredOfAnswers();
    lastBytes();
    Check.end();
  }

  private static boolean isLetter(int value) {
    return value >= 'A' && value <= 'Z' || value >= 'a' && value <= 'z';
  }

  private static boolean isHex(int value) {
    return value >= '0' && value <= '9' || value >= 'A' && value <= 'F' || value >= 'a' && value <= 'f';
  }

  private static String repeat(String text, int many) {
    return text.repeat(many);
  }

  /** Sends a text and each byte behind it: none is served by those that can stand, 400 by the others. */
  private static void stands(String ahead, Bytes can) {
    for (int value = 0; value < 256; value++) tells(ahead, value, can.has(value) ? 0 : 400);
  }

  private static void tells(String ahead, int value, int code) {
    Watch w = new Watch();
    w.x.addHost(600, 500);
    w.x.connect(1, 0, 80);
    w.x.settle(1);
    Check.due("taken", w.write(0, ahead + (char) value), ahead.length() + 1);
    w.x.settle(20);
    String what = "byte " + value + " behind " + ahead;
    Check.due("served by " + what, w.x.count(10), code == 0 ? 0 : 1);
    if (code == 0 || w.x.count(10) == 0) return;
    Check.due("code of " + what, w.x.servedAt(0, 2), code);
    Check.due("how many bytes with " + what, w.x.servedAt(0, 4), ahead.length() + 1);
    Check.due("the last one by " + what, w.x.servedAt(0, 5), code < 400 ? 0 : 1);
    Check.isTrue("agrees with " + what, w.x.agrees());
    Check.due("errors with " + what, w.x.errors(), 0);
  }

  /** "400 a byte that cannot stand where it stands (also a byte that is none of 32 to 126, 13 and 10; 13 without 10 ..)". */
  private static void everyByteOfTheHead() {
    stands("", b -> b >= 'A' && b <= 'Z');
    stands("GE", b -> b >= 'A' && b <= 'Z' || b == ' ');
    stands("GET ", b -> b > 32 && b < 127);
    stands("GET /", b -> b > 31 && b < 127);
    stands("GET / ", b -> b > 32 && b < 127);
    stands("GET / H", b -> b > 32 && b < 127 || b == 13);
    stands("GET / H\r", b -> b == 10);
    stands("GET / H\r\n", b -> isLetter(b) || b == '-' || b == 13);
    stands("GET / H\r\nA", b -> isLetter(b) || b == '-' || b == ':');
    stands("GET / H\r\nA:", b -> b > 31 && b < 127 || b == 13);
    stands("GET / H\r\nA: b", b -> b > 31 && b < 127 || b == 13);
    stands("GET / H\r\nA: b\r", b -> b == 10);
    for (int value = 0; value < 256; value++) tells("GET / H\r\n\r", value, value == 10 ? 505 : 400);
  }

  /** "lines with a number of 1 to 4 hexadecimal digits, and so many bytes, and 13 10; the last one with 0, and ..". */
  private static void everyByteOfTheBody() {
    stands(CHUNKS, RequestEdgeTest::isHex);
    stands(CHUNKS + "1", b -> isHex(b) || b == 13);
    stands(CHUNKS + "000", b -> isHex(b) || b == 13);
    stands(CHUNKS + "0001", b -> b == 13);
    stands(CHUNKS + "1\r", b -> b == 10);
    stands(CHUNKS + "1\r\n", b -> true);
    stands(CHUNKS + "1\r\nx", b -> b == 13);
    stands(CHUNKS + "1\r\nx\r", b -> b == 10);
    stands(CHUNKS + "1\r\nx\r\n", RequestEdgeTest::isHex);
    stands(CHUNKS + "0\r", b -> b == 10);
    stands(CHUNKS + "0\r\n", b -> b == 13);
    for (int value = 0; value < 256; value++) tells(CHUNKS + "0\r\n\r", value, value == 10 ? 201 : 400);
    stands("PUT /a" + H + "Content-Length: 2\r\n\r\n", b -> true);
    for (int value = 0; value < 256; value++) tells("PUT /a" + H + "Content-Length: 1\r\n\r\n", value, 201);
  }

  /** "of one byte by which several of these are wrong a 9th line is told first, then 400, then 414, then a 101st byte". */
  private static void everyByteAtALimit() {
    String eight = "GET / H\r\n" + repeat("A:\r\n", 8);
    String forty = "GET /" + repeat("a", 39);
    String method = repeat("G", 100);
    String target = repeat("G", 59) + " /" + repeat("a", 39);
    String short40 = repeat("G", 65) + " /" + repeat("a", 33);
    String version = "GET / " + repeat("H", 94);
    String name = "GET / H\r\n" + repeat("A", 100);
    String value = "GET / H\r\nA:" + repeat("b", 98);
    for (int b = 0; b < 256; b++) {
      boolean isSeen = b > 32 && b < 127;
      boolean isGreat = b >= 'A' && b <= 'Z';
      tells(eight, b, b == 13 ? 0 : 431);
      tells(eight + "\r", b, b == 10 ? 505 : 400);
      tells(forty, b, b == 32 ? 0 : isSeen ? 414 : 400);
      tells(method, b, isGreat || b == 32 ? 431 : 400);
      // The 41st byte of the target is the 101st of its line; a blank behind 40 is the 101st, too.
      tells(target, b, b == 32 ? 431 : isSeen ? 414 : 400);
      tells(short40, b, b == 32 || isSeen ? 431 : 400);
      tells(version, b, b == 13 ? 0 : isSeen ? 431 : 400);
      tells(name, b, isLetter(b) || b == '-' || b == ':' ? 431 : 400);
      tells(value, b, b == 13 ? 0 : isSeen || b == 32 ? 431 : 400);
      tells(value + "\r", b, b == 10 ? 0 : 400);
    }
  }

  /** All limits stand anew for the next request of a connection, behind one that had come to them. */
  private static void limitsOfTheNextOne() {
    String line = "GET /" + repeat("a", 39) + " HTTP/1.1\r\n";
    String lines = "Host: h\r\n" + repeat("A:\r\n", 5) + "Content-Length: 300\r\nX:" + repeat("b", 98) + "\r\n";
    String full = line + lines + "\r\n" + repeat("x", 300);
    String chunked = "PUT /a" + H + "Transfer-Encoding: chunked\r\n\r\n012C\r\n"
        + repeat("y", 300) + "\r\n0000\r\n\r\n";
    String[] behind = {full, chunked, "GET " + repeat("/", 41), line + lines + "Y", repeat("G", 101), CHUNKS + "12d\r",
        "GET /" + H + "Content-Length: 301\r\n\r\n", "GET /" + H + "X:" + repeat("b", 99), "OPTIONS *" + H + "\r\n"};
    int[] codes = {404, 201, 414, 431, 431, 413, 413, 431, 204};
    for (String first : new String[] {full, chunked}) {
      for (int k = 0; k < behind.length; k++) {
        RequestTest t = new RequestTest();
        t.ask(first + behind[k]);
        Check.due("two of them", t.w.x.count(10), 2);
        // The file is there already, if both of them put it.
        boolean isThere = first == chunked && behind[k] == chunked;
        Check.due("the second", t.w.x.servedAt(1, 2), isThere ? 204 : codes[k]);
        Check.due("its bytes", t.w.x.servedAt(1, 4), behind[k].length());
        Check.isTrue("agrees", t.w.x.agrees());
      }
    }
  }

  /** "a VALUE is all bytes 32 to 126 behind the : and blanks, without blanks at its end". */
  private static void valuesWithoutBlanks() {
    String[] lengths = {":2", ": 2", ":   2", ":2 ", ": 2   ", ":02", ": 000002 "};
    for (String length : lengths) {
      RequestTest.whole(200, "GET /" + H + "Content-Length" + length + "\r\n\r\nab");
    }
    String[] wrong = {":", ": ", ":   ", ": 2 2", ": 2\u007e", ": \u007e2"};
    for (String length : wrong) {
      RequestTest.wrongAtItsEnd(400, "GET /" + H + "Content-Length" + length + "\r\n\r\n");
    }
    // An empty value is one: no file has it as its tag.
    RequestTest t = new RequestTest();
    t.ask("PUT /a" + H + "Content-Length: 1\r\n\r\nx");
    for (String blanks : new String[] {"", " ", "   "}) {
      Check.due("If-Match of nothing", t.code("GET /a" + H + "If-Match:" + blanks + "\r\n\r\n"), 412);
      Check.due("If-None-Match of nothing", t.code("GET /a" + H + "If-None-Match:" + blanks + "\r\n\r\n"), 200);
      Check.due("Range of nothing", t.code("GET /a" + H + "Range:" + blanks + "\r\n\r\n"), 200);
      Check.due("Connection of nothing", t.code("GET /a" + H + "Connection:" + blanks + "\r\n\r\n"), 200);
    }
    RequestTest.wrongAtItsEnd(501, "GET /" + H + "Transfer-Encoding: \r\n\r\n");
  }

  /** Likewise: a : in a value is a byte of it. */
  private static void valuesWithColons() {
    RequestTest.whole(200, "GET / HTTP/1.1\r\nHost: h:80\r\n\r\n");
    RequestTest.whole(200, "GET / HTTP/1.1\r\nHost::\r\n\r\n");
    RequestTest.whole(200, "GET /" + H + "X: Connection: close\r\n\r\n");
    RequestTest.whole(200, "GET /" + H + "X: Content-Length: 9\r\n\r\n");
    RequestTest.wrongAtItsEnd(400, "GET / HTTP/1.1\r\nX: Host: h\r\n\r\n");
    RequestTest.wrongAtItsEnd(400, "GET /" + H + "Content-Length: 1:\r\n\r\n");
    // Names that are longer or shorter than those known are others.
    String[] others = {"Connectio", "Connections", "-Connection", "Connection-", "Conection"};
    for (String other : others) RequestTest.whole(200, "GET /" + H + other + ": close\r\n\r\n");
    RequestTest.whole(200, "GET /" + H + "Content-Length-: 9\r\nContent-Lengt: x\r\nTransfer-Encodin: y\r\n\r\n");
    RequestTest.wrongAtItsEnd(400, "GET / HTTP/1.1\r\nHosts: h\r\nHos: h\r\n\r\n");
  }

  /** "Content-Length that is no number of 1 to 6 digits, two of them with unlike numbers"; "more than 300". */
  private static void digits() {
    for (int b = 32; b < 127; b++) {
      boolean isDigit = b >= '0' && b <= '9';
      String head = "GET /" + H + "Content-Length: ";
      if (isDigit) RequestTest.whole(200, head + "0" + (char) b + "\r\n\r\n" + repeat("x", b - '0'));
      else if (b != 32) RequestTest.wrongAtItsEnd(400, head + "0" + (char) b + "\r\n\r\n");
      if (!isDigit && b != 32) RequestTest.wrongAtItsEnd(400, head + (char) b + "0\r\n\r\n");
    }
    String[] six = {"0", "00", "000000", "000300"};
    int[] bodies = {0, 0, 0, 300};
    for (int k = 0; k < six.length; k++) {
      RequestTest.whole(200, "GET /" + H + "Content-Length: " + six[k] + "\r\n\r\n" + repeat("x", bodies[k]));
    }
    RequestTest.wrongAtItsEnd(413, "GET /" + H + "Content-Length: 000301\r\n\r\n");
    RequestTest.wrongAtItsEnd(413, "GET /" + H + "Content-Length: 100000\r\n\r\n");
    RequestTest.wrongAtItsEnd(400, "GET /" + H + "Content-Length: 0000000\r\n\r\n");
    RequestTest.wrongAtItsEnd(400, "GET /" + H + "Content-Length: 1000000\r\n\r\n");
    RequestTest.wrongAtItsEnd(400, "GET /" + H + "Content-Length: 1\r\nContent-Length: 1\r\nContent-Length: 0\r\n\r\n");
    RequestTest.wrongAtItsEnd(400, "GET /" + H + "Content-Length: 0\r\nContent-Length: 1\r\nContent-Length: 0\r\n\r\n");
    RequestTest.wrongAtItsEnd(400, "GET /" + H + "Content-Length: 1\r\nContent-Length:\r\n\r\n");
    RequestTest.wrongAtItsEnd(400, "GET /" + H + "Content-Length: 301\r\nContent-Length: 302\r\n\r\n");
    RequestTest.wrongAtItsEnd(413, "GET /" + H + "Content-Length: 301\r\nContent-Length: 0301\r\n\r\n");
  }

  /** "501 another method than GET HEAD PUT POST DELETE OPTIONS": not a part of one, nor one with more behind it. */
  private static void namesOfMethods() {
    String[] methods = {"GET", "HEAD", "PUT", "POST", "DELETE", "OPTIONS"};
    int[] codes = {404, 404, 201, 404, 404, 204};
    for (int k = 0; k < methods.length; k++) {
      String method = methods[k];
      String rest = " /a" + H + "Content-Length: 0\r\n\r\n";
      RequestTest.whole(codes[k], method + rest);
      RequestTest.wrongAtItsEnd(501, method + "S" + rest);
      RequestTest.wrongAtItsEnd(501, "A" + method + rest);
      RequestTest.wrongAtItsEnd(501, method.substring(1) + rest);
      RequestTest.wrongAtItsEnd(501, method.substring(0, method.length() - 1) + rest);
      RequestTest.wrongAtItsEnd(501, "X" + method.substring(1) + rest);
      RequestTest.wrongAtItsEnd(501, method.substring(0, method.length() - 1) + "X" + rest);
    }
  }

  /** "Connection: close; HTTP/1.0 without Connection: keep-alive": "the last one counts", also if it is another value. */
  private static void connectionsThatStay() {
    String[] values = {"close", "keep-alive", "CLOSE", "Keep-Alive", "closed", "keep-aliv", "keep alive", "", "x"};
    int[] kinds = {1, 2, 1, 2, 0, 0, 0, 0, 0};
    for (int version = 0; version < 2; version++) {
      String head = "GET / HTTP/1." + version + "\r\nHost: h\r\n";
      RequestTest.wholeButLast(200, head + "\r\n", 1 - version);
      for (int k = 0; k < values.length; k++) {
        int last = kinds[k] == 1 || kinds[k] == 0 && version == 0 ? 1 : 0;
        RequestTest.wholeButLast(200, head + "Connection: " + values[k] + "\r\n\r\n", last);
        for (String first : new String[] {"close", "keep-alive"}) {
          RequestTest.wholeButLast(200, head + "Connection: " + first + "\r\nConnection: " + values[k] + "\r\n\r\n", last);
        }
      }
    }
  }

  /** "NAMEs are letters and -, small ones like great ones": others than those known do nothing. */
  private static void namesThatMeanNothing() {
    RequestTest t = new RequestTest();
    t.ask("PUT /a" + H + "Content-Length: 3\r\n\r\nabc");
    String[] names = {"X", "Rang", "Ranges", "If-Rang", "-Range", "Range-"};
    for (String name : names) Check.due(name, t.code("GET /a" + H + name + ": bytes=0-0\r\n\r\n"), 200);
    String[] conditions = {"If-Matc", "If-Matches", "IfMatch", "If-None-Matc", "If-NoneMatch", "None-Match", "Match"};
    for (String name : conditions) Check.due(name, t.code("GET /a" + H + name + ": \"v2\"\r\n\r\n"), 200);
    for (String name : conditions) Check.due(name, t.code("GET /a" + H + name + ": *\r\n\r\n"), 200);
    Check.due("RANGE", t.code("GET /a" + H + "RANGE: bytes=0-0\r\n\r\n"), 206);
    Check.due("iF-mATCH", t.code("GET /a" + H + "iF-mATCH: \"v2\"\r\n\r\n"), 412);
    Check.due("IF-NONE-MATCH", t.code("GET /a" + H + "IF-NONE-MATCH: *\r\n\r\n"), 304);
    Check.due("a value is not", t.code("GET /a" + H + "Range: BYTES=0-0\r\n\r\n"), 200);
    Check.due("nor a tag", t.code("GET /a" + H + "If-Match: \"V1\"\r\n\r\n"), 412);
    Check.due("nor a target", t.code("GET /A" + H + "\r\n"), 404);
    RequestTest.wrongAtItsEnd(411, "PUT /a" + H + "ContentLength: 1\r\n\r\n");
  }

  /** "Others have 404 (400 without / at the beginning; OPTIONS can have *)": and only a 204 of OPTIONS tells what it lets. */
  private static void optionsOfTargets() {
    for (int b = 33; b < 127; b++) {
      int due = b == '/' || b == '*' ? 204 : 400;
      RequestTest.whole(due, "OPTIONS " + (char) b + H + "\r\n");
      boolean isSign = b >= 'a' && b <= 'z' || b >= '0' && b <= '9' || b == '.';
      RequestTest.whole(isSign ? 204 : 404, "OPTIONS /" + (char) b + H + "\r\n");
      RequestTest.whole(isSign ? 201 : 404, "PUT /a" + (char) b + H + "Content-Length: 0\r\n\r\n");
    }
    RequestTest t = new RequestTest();
    Check.dueText("404", t.ask("OPTIONS /A" + H + "\r\n"),
        "HTTP/1.1 404 Not Found\r\nContent-Length: 9\r\n\r\nNot Found");
    Check.dueText("400", t.ask("OPTIONS **" + H + "\r\n"),
        "HTTP/1.1 400 Bad Request\r\nContent-Length: 11\r\n\r\nBad Request");
    Check.dueText("12 signs", t.ask("OPTIONS /" + repeat("z", 12) + H + "\r\n").substring(0, 12), "HTTP/1.1 204");
    Check.dueText("13 signs", t.ask("OPTIONS /" + repeat("z", 13) + H + "\r\n").substring(0, 12), "HTTP/1.1 404");
    Check.dueText("413", t.ask("OPTIONS /a" + H + "Content-Length: 301\r\n\r\n"),
        "HTTP/1.1 413 Content Too Large\r\nContent-Length: 17\r\nConnection: close\r\n\r\nContent Too Large");
    Check.dueText("* is nothing else", t.ask("GET *" + H + "\r\n"),
        "HTTP/1.1 400 Bad Request\r\nContent-Length: 11\r\n\r\nBad Request");
  }

  /** "206 with these bytes (B at most the last one; of -N the last N), 416 if A is not below the size, ..". */
  private static void everyRange() {
    for (int size = 0; size < 4; size++) {
      RequestTest t = new RequestTest();
      String body = "abc".substring(0, size);
      t.ask("PUT /a" + H + "Content-Length: " + size + "\r\n\r\n" + body);
      for (int first = 0; first < 5; first++) {
        range(t, body, first + "-", first, size - 1);
        for (int last = 0; last < 5; last++) {
          if (last < first) range(t, body, first + "-" + last, size, 0);
          else range(t, body, first + "-" + last, first, Math.min(last, size - 1));
        }
        if (first == 0) range(t, body, "-0", size, 0);
        else range(t, body, "-" + first, Math.max(0, size - first), size - 1);
      }
      range(t, body, "000000-999999", 0, size - 1);
      range(t, body, "-999999", 0, size - 1);
      for (String other : new String[] {"0000000-", "-0000001", "0-0000001", "0/-", "0:-", "-/", "-:", "0-/", "0-:"}) {
        Check.due("no range " + other, t.code("GET /a" + H + "Range: bytes=" + other + "\r\n\r\n"), 200);
      }
    }
  }

  private static void range(RequestTest t, String body, String range, int first, int last) {
    int size = body.length();
    String due = "HTTP/1.1 416 Range Not Satisfiable\r\nContent-Length: 21\r\nContent-Range: bytes */" + size
        + "\r\n\r\nRange Not Satisfiable";
    if (first < size) {
      due = "HTTP/1.1 206 Partial Content\r\nContent-Length: " + (last + 1 - first) + "\r\nETag: \"v1\"\r\nContent-Range: "
          + "bytes " + first + "-" + last + "/" + size + "\r\n\r\n" + body.substring(first, last + 1);
    }
    Check.dueText("range " + range + " of " + size, t.ask("GET /a" + H + "Range: bytes=" + range + "\r\n\r\n"), due);
  }

  /** "Its tag is \" v, the version in decimals, \"": 9 and 10, 99 and 100. */
  private static void tagsOfThreeDigits() {
    RequestTest t = new RequestTest();
    String put = "PUT /a" + H + "Content-Length: 0\r\n\r\n";
    int[] versions = {1, 9, 10, 11, 99, 100, 101};
    int version = 0;
    for (int due : versions) {
      while (version < due) {
        int many = Math.min(8, due - version);
        t.ask(repeat(put, many));
        version += many;
      }
      Check.due("version", t.w.x.count(9), due);
      Check.due("of the file", t.w.x.fileAt(0, 1), due);
      Check.isTrue("its tag " + due, t.ask("GET /a" + H + "\r\n").contains("ETag: \"v" + due + "\"\r\n"));
      Check.due("it fits", t.code("GET /a" + H + "If-Match: \"v" + due + "\"\r\n\r\n"), 200);
      Check.due("none before it", t.code("GET /a" + H + "If-Match: \"v" + (due - 1) + "\"\r\n\r\n"), 412);
      Check.due("none behind it", t.code("GET /a" + H + "If-Match: \"v" + (due + 1) + "\"\r\n\r\n"), 412);
      Check.isTrue("of the list", t.ask("HEAD /" + H + "\r\n").contains("ETag: \"v" + due + "\"\r\n"));
    }
  }

  /** "412 if If-Match does not fit (also if there is no file)"; "404 if it is not there"; "v0 at first". */
  private static void conditionsWithoutAFile() {
    String[] lines = {"If-Match: *", "If-Match: \"v0\"", "If-None-Match: *", "If-None-Match: \"v0\"", "X: y"};
    int[] puts = {412, 412, 201, 201, 201};
    for (int k = 0; k < lines.length; k++) {
      RequestTest t = new RequestTest();
      for (String method : new String[] {"GET", "HEAD", "POST", "DELETE"}) {
        Check.due(method + " " + lines[k], t.code(method + " /a" + H + lines[k] + "\r\nContent-Length: 0\r\n\r\n"), 404);
      }
      Check.due("GET of the list", t.code("GET /" + H + lines[k] + "\r\n\r\n"), 200);
      Check.due("PUT " + lines[k], t.code("PUT /a" + H + lines[k] + "\r\nContent-Length: 0\r\n\r\n"), puts[k]);
      Check.due("files", t.w.x.count(8), puts[k] == 201 ? 1 : 0);
      Check.due("version", t.w.x.count(9), puts[k] == 201 ? 1 : 0);
    }
  }

  /** "There are up to 8 files": a 507 leaves all as it was, and the last one that goes makes room for one. */
  private static void eightFiles() {
    RequestTest t = new RequestTest();
    for (int k = 0; k < 8; k++) Check.due("new", t.code("PUT /f" + k + H + "Content-Length: 1\r\n\r\n" + k), 201);
    Check.due("a ninth", t.code("PUT /f8" + H + "Content-Length: 1\r\n\r\n8"), 507);
    Check.due("files", t.w.x.count(8), 8);
    Check.due("version", t.w.x.count(9), 8);
    for (int k = 0; k < 8; k++) Check.dueText("file " + k, t.w.file(k), "/f" + k + "=" + k + " v" + (k + 1));
    Check.due("POST to a ninth", t.code("POST /f8" + H + "Content-Length: 1\r\n\r\n8"), 404);
    Check.due("the eighth can change", t.code("PUT /f7" + H + "Content-Length: 0\r\n\r\n"), 204);
    Check.due("the last one goes", t.code("DELETE /f7" + H + "\r\n"), 204);
    Check.noIndex("no eighth", () -> t.w.x.fileAt(7, 0));
    Check.due("there is room", t.code("PUT /a" + H + "Content-Length: 0\r\n\r\n"), 201);
    Check.due("for one", t.code("PUT /b" + H + "Content-Length: 0\r\n\r\n"), 507);
    Check.dueText("the first one by name", t.w.file(0), "/a= v11");
    Check.dueText("the last one", t.w.file(7), "/f6=6 v7");
    Check.isTrue("agrees", t.w.x.agrees());
  }

  /** "413 as the bytes of all chunks would be more than 300 (at the 13 of the line)"; "413 if it were above 300". */
  private static void sizesByChunks() {
    String hundred = "64\r\n" + repeat("x", 100) + "\r\n";
    RequestTest.whole(201, CHUNKS + hundred + hundred + hundred + "0\r\n\r\n");
    RequestTest.wrongAtItsEnd(413, CHUNKS + hundred + hundred + hundred + "1\r");
    RequestTest.wrongAtItsEnd(413, CHUNKS + hundred + hundred + "65\r");
    RequestTest.wrongAtItsEnd(413, CHUNKS + "12D\r");
    RequestTest.whole(201, CHUNKS + "12C\r\n" + repeat("x", 300) + "\r\n0\r\n\r\n");
    RequestTest.whole(201, CHUNKS + "00ff\r\n" + repeat("x", 255) + "\r\n2D\r\n" + repeat("x", 45) + "\r\n000\r\n\r\n");
    RequestTest t = new RequestTest();
    t.ask("PUT /a" + H + "Content-Length: 1\r\n\r\nx");
    Check.due("299 more", t.code("POST /a" + H + "Content-Length: 299\r\n\r\n" + repeat("y", 299)), 204);
    Check.due("size", t.w.x.fileAt(0, 0), 300);
    Check.due("none more", t.code("POST /a" + H + "Transfer-Encoding: chunked\r\n\r\n0\r\n\r\n"), 204);
    Check.due("one more", t.code("POST /a" + H + "Transfer-Encoding: chunked\r\n\r\n1\r\nz\r\n0\r\n\r\n"), 413);
    Check.due("that is not the last one", t.w.x.servedAt(3, 5), 0);
    Check.dueText("the file stays", t.w.file(0), "/a=x" + repeat("y", 299) + " v3");
    Check.due("a whole file in one range", t.ask("GET /a" + H + "Range: bytes=0-299\r\n\r\n").length(), 97 + 300);
  }

  /** fileByteAt(), fileAt(): "if there is no such file or byte", also where one was. */
  private static void goneFiles() {
    RequestTest t = new RequestTest();
    t.ask("PUT /a" + H + "Content-Length: 3\r\n\r\nabc");
    t.ask("PUT /b" + H + "Content-Length: 5\r\n\r\nabcde");
    t.ask("DELETE /b" + H + "\r\n");
    Check.noIndex("its name", () -> t.w.x.fileByteAt(1, true, 0));
    Check.noIndex("its bytes", () -> t.w.x.fileByteAt(1, false, 0));
    Check.noIndex("its size", () -> t.w.x.fileAt(1, 0));
    t.ask("PUT /a" + H + "Content-Length: 1\r\n\r\nx");
    Check.noIndex("a byte that was", () -> t.w.x.fileByteAt(0, false, 1));
    t.ask("DELETE /a" + H + "\r\n");
    Check.noIndex("no file", () -> t.w.x.fileByteAt(0, true, 0));
    t.ask("PUT /abc" + H + "Content-Length: 0\r\n\r\n");
    Check.dueText("nothing of those before", t.w.file(0), "/abc= v6");
    // Names that begin alike stand by their lengths, also where longer ones stood.
    RequestTest u = new RequestTest();
    String[] names = {"/zzz", "/yyy", "/xxx"};
    for (String name : names) u.ask("PUT " + name + H + "Content-Length: 0\r\n\r\n");
    for (String name : names) u.ask("DELETE " + name + H + "\r\n");
    for (String name : new String[] {"/a", "/ab", "/abc"}) u.ask("PUT " + name + H + "Content-Length: 0\r\n\r\n");
    Check.isTrue("in their order", u.ask("GET /" + H + "\r\n").endsWith("\r\n\r\n/a\n/ab\n/abc\n"));
    for (String name : new String[] {"/a", "/ab"}) u.ask("DELETE " + name + H + "\r\n");
    for (String name : new String[] {"/ab", "/a"}) u.ask("PUT " + name + H + "Content-Length: 0\r\n\r\n");
    Check.isTrue("in their order again", u.ask("GET /" + H + "\r\n").endsWith("\r\n\r\n/a\n/ab\n/abc\n"));
  }

  /** servedAt(): "1 for its number on this": each connection counts its own. */
  private static void numbersOnConnections() {
    Watch w = new Watch();
    w.x.addHost(600, 500);
    for (int k = 0; k < 2; k++) {
      w.x.connect(1, 0, 80);
      w.x.settle(1);
    }
    String get = "GET /" + H + "\r\n";
    w.write(0, get);
    w.x.settle(1);
    w.x.pass(3);
    w.write(2, get + get + "G");
    w.x.settle(1);
    w.write(0, get + "X");
    w.x.settle(1);
    int[][] due = {{1, 0, 0}, {3, 0, 3}, {3, 1, 3}, {1, 1, 3}};
    for (int k = 0; k < 4; k++) {
      Check.due("connection", w.x.servedAt(k, 0), due[k][0]);
      Check.due("number on it", w.x.servedAt(k, 1), due[k][1]);
      Check.due("time", w.x.servedAt(k, 6), due[k][2]);
      Check.due("bytes", w.x.servedAt(k, 4), get.length());
    }
    Check.noIndex("what is not whole is none", () -> w.x.servedAt(4, 0));
  }

  /** "it writes what is left of an answer; if nothing is left .. otherwise reads byte by byte what came": up to 600. */
  private static void sixHundredOfAnswers() {
    // Answers of 352, and of 247 to 249: 599 and 600 have room, so that the next request is read; 601 have not.
    for (int last = 149; last <= 151; last++) {
      Watch w = ConnectionTest.begun(300);
      w.write(0, repeat("x", 300));
      w.x.settle(1);
      while (w.x.read(0, 300) > 0) w.x.settle(1);
      w.write(0, "GET /a" + H + "\r\nGET /a" + H + "Range: bytes=0-" + last + "\r\n\r\nGET /" + H + "\r\n");
      w.x.deliver(0);
      Check.due("two answers", w.x.servedAt(1, 3) + w.x.servedAt(2, 3), 450 + last);
      Check.due("written, not acknowledged", w.x.connectionAt(1, 11), 600);
      Check.due("requests", w.x.count(10), last <= 150 ? 4 : 3);
      Check.due("bytes that wait", w.x.connectionAt(1, 12), last <= 150 ? 0 : 27);
    }
    Watch v = ConnectionTest.full(3);
    Check.due("three of 352: the second is not whole", v.x.connectionAt(1, 11), 600);
    Check.due("bytes that wait", v.x.connectionAt(1, 12), 0);
    Check.due("requests", v.x.count(10), 1 + 3);
  }

  /** servedAt(): "how many bytes it had (up to the one with which it was whole, or wrong)"; answerAt(): the last byte. */
  private static void lastBytes() {
    RequestTest t = new RequestTest();
    t.ask("PUT /a" + H + "Content-Length: 3\r\n\r\nabcGET");
    Check.due("up to the last byte of the body", t.w.x.servedAt(0, 4), 17 + 9 + 19 + 2 + 3);
    t.ask(" /a" + H + "\r\nZ");
    Check.due("of the next one all, wherever they came", t.w.x.servedAt(1, 4), 17 + 9 + 2);
    t.ask(" \nabc");
    Check.due("up to the wrong one", t.w.x.servedAt(2, 4), 3);
    Check.due("the last byte of the answer", t.w.x.answerAt(2, t.w.x.servedAt(2, 3) - 1), 't');
    Check.due("the last byte of the one before", t.w.x.answerAt(1, t.w.x.servedAt(1, 3) - 1), 'c');
    for (int k = 0; k < 3; k++) {
      int request = k;
      Check.noIndex("behind the answer", () -> t.w.x.answerAt(request, t.w.x.servedAt(request, 3)));
    }
  }
}
