/** Promises 32 to 35, and section 9: requests, files and answers. */
final class RequestTest {
  static final String H = " HTTP/1.1\r\nHost: h\r\n";

  /** A client, and as many connections one after the other as it needs. */
  final Watch w = new Watch();
  int connection = -1;

  RequestTest() {
    w.x.addHost(600, 500);
  }

  public static void main(String[] args) {
    heads();
    versions();
    methods();
    lengths();
    bodies();
    targets();
    longLines();
    manyLines();
    order();
    files();
    conditions();
    ranges();
    lists();
    fullHouse();
    sizes();
    allowing();
    headsOnly();
    staying();
    oneAfterTheOther();
    longAnswers();
    ends();
    served();
    askedForFiles();
    Check.end();
  }

  private void open() {
    if (connection >= 0 && w.x.connectionAt(connection, 0) == Lanternserver.ESTABLISHED) return;
    if (connection >= 0 && w.x.connectionAt(connection, 0) == Lanternserver.CLOSE_WAIT) w.x.close(connection, false);
    w.x.settle(1);
    w.x.pass(40);
    connection = w.x.connect(1, 0, 80);
    w.x.settle(5);
  }

  /** Sends a text, and returns the answer to the request that it made, or "" if it made none. */
  String ask(String text) {
    open();
    int before = w.x.count(10);
    String rest = text;
    String got = "";
    while (!rest.isEmpty()) {
      String some = rest.substring(0, Math.min(400, rest.length()));
      rest = rest.substring(some.length());
      w.write(connection, some);
      got += w.readAll(connection);
    }
    if (w.x.count(10) == before) return "";
    String answers = "";
    for (int k = before; k < w.x.count(10); k++) answers += w.answer(k);
    Check.dueText("what the client reads of " + text, got, answers);
    return w.answer(before);
  }

  int code(String text) {
    String answer = ask(text);
    return answer.isEmpty() ? 0 : Integer.parseInt(answer.substring(9, 12));
  }

  /** The text is wrong at its last byte, and not ahead of it. */
  static void wrongAtItsEnd(int code, String text) {
    RequestTest t = new RequestTest();
    Check.due("ahead of the end of " + text, t.code(text.substring(0, text.length() - 1)), 0);
    t = new RequestTest();
    Check.due("code of " + text, t.code(text), code);
    Check.due("bytes of " + text, t.w.x.servedAt(0, 4), text.length());
    Check.due("is the last one: " + text, t.w.x.servedAt(0, 5), 1);
    Check.isTrue("says so: " + text, t.w.answer(0).contains("\r\nConnection: close\r\n"));
  }

  static void whole(int code, String text) {
    wholeButLast(code, text, 0);
  }

  static void wholeButLast(int code, String text, int last) {
    RequestTest t = new RequestTest();
    Check.due("code of " + text, t.code(text + "G"), code);
    Check.due("bytes of " + text, t.w.x.servedAt(0, 4), text.length());
    Check.due("the last one: " + text, t.w.x.servedAt(0, 5), last);
    Check.isTrue("agrees", t.w.x.agrees());
    Check.due("errors", t.w.x.errors(), 0);
  }

  private static String text(char sign, int many) {
    return String.valueOf(sign).repeat(many);
  }

  private static void heads() {
    whole(404, "GET /a" + H + "\r\n");
    wrongAtItsEnd(400, " ");
    wrongAtItsEnd(400, "\r");
    wrongAtItsEnd(400, "\n");
    wrongAtItsEnd(400, "g");
    wrongAtItsEnd(400, "Ge");
    wrongAtItsEnd(400, "G1");
    wrongAtItsEnd(400, "GET\r");
    wrongAtItsEnd(400, "GET\n");
    wrongAtItsEnd(400, "GET  ");
    wrongAtItsEnd(400, "GET \r");
    wrongAtItsEnd(400, "GET /\r");
    wrongAtItsEnd(400, "GET /\n");
    wrongAtItsEnd(400, "GET /\t");
    wrongAtItsEnd(400, "GET /\u007f");
    wrongAtItsEnd(400, "GET /\u0080");
    wrongAtItsEnd(400, "GET /\u00ff");
    wrongAtItsEnd(400, "GET /\u0000");
    wrongAtItsEnd(400, "GET /  ");
    wrongAtItsEnd(400, "GET / \r");
    wrongAtItsEnd(400, "GET / \n");
    wrongAtItsEnd(400, "GET / H ");
    wrongAtItsEnd(400, "GET / H\n");
    wrongAtItsEnd(400, "GET / H\r\r");
    wrongAtItsEnd(400, "GET / H\rH");
    wrongAtItsEnd(400, "GET / H\r\n ");
    wrongAtItsEnd(400, "GET / H\r\n\n");
    wrongAtItsEnd(400, "GET / H\r\n:");
    wrongAtItsEnd(400, "GET / H\r\n1");
    wrongAtItsEnd(400, "GET / H\r\nA ");
    wrongAtItsEnd(400, "GET / H\r\nA1");
    wrongAtItsEnd(400, "GET / H\r\nA\r");
    wrongAtItsEnd(400, "GET / H\r\nA_");
    wrongAtItsEnd(400, "GET / H\r\nA:\n");
    wrongAtItsEnd(400, "GET / H\r\nA:b\u007f");
    wrongAtItsEnd(400, "GET / H\r\nA:b\u001f");
    wrongAtItsEnd(400, "GET / H\r\nA:b\r\r");
    wrongAtItsEnd(400, "GET / H\r\nA:b\r\n\r\r");
    wrongAtItsEnd(400, "GET / H\r\n\rG");
    whole(200, "GET /" + H + "-:\r\n-a-Z:~ ~:\r\nA:   \r\n\r\n");
  }

  private static void versions() {
    wrongAtItsEnd(505, "GET / H\r\n\r\n");
    wrongAtItsEnd(505, "GET / HTTP/1.2\r\nHost: h\r\n\r\n");
    wrongAtItsEnd(505, "GET / http/1.1\r\nHost: h\r\n\r\n");
    wrongAtItsEnd(505, "GET / HTTP/1.10\r\nHost: h\r\n\r\n");
    wrongAtItsEnd(505, "GET / HTTP/1.\r\nHost: h\r\n\r\n");
    wrongAtItsEnd(505, "GET / ~\r\nHost: h\r\n\r\n");
    wholeButLast(200, "GET / HTTP/1.0\r\n\r\n", 1);
    wrongAtItsEnd(400, "GET / HTTP/1.1\r\n\r\n");
    wrongAtItsEnd(400, "GET / HTTP/1.1\r\nHost: a\r\nHost: a\r\n\r\n");
    wholeButLast(200, "GET / HTTP/1.0\r\nHost: a\r\nHost: b\r\n\r\n", 1);
    whole(200, "GET / HTTP/1.1\r\nhOST:\r\n\r\n");
  }

  private static void methods() {
    wrongAtItsEnd(501, "GETS /" + H + "\r\n");
    wrongAtItsEnd(501, "G /" + H + "\r\n");
    wrongAtItsEnd(501, "TRACE /" + H + "\r\n");
    wrongAtItsEnd(501, "GET /" + H + "Transfer-Encoding: gzip\r\n\r\n");
    wrongAtItsEnd(501, "GET /" + H + "Transfer-Encoding: chunked, chunked\r\n\r\n");
    wrongAtItsEnd(501, "GET /" + H + "Transfer-Encoding:\r\n\r\n");
    wrongAtItsEnd(501, "GET /" + H + "Transfer-Encoding: chunked\r\nTransfer-Encoding: x\r\n\r\n");
    whole(200, "GET /" + H + "Transfer-Encoding: x\r\nTransfer-Encoding: CHUNKED  \r\n\r\n0\r\n\r\n");
    for (String method : new String[] {"FOO", "GETT", "PUTS", "POSX", "DELETX", "OPTIONX", "HEAX", "P", "DELETES"}) {
      wrongAtItsEnd(501, method + " /a" + H + "Content-Length: 0\r\n\r\n");
    }
    whole(405, "DELETE /" + H + "\r\n");
    whole(204, "OPTIONS /" + H + "\r\n");
    whole(200, "HEAD /" + H + "\r\n");
  }

  private static void lengths() {
    String[] wrong = {"", "x", "-1", "+1", "1 2", "1234567", "0x1", "1,1", "1.0"};
    for (String value : wrong) wrongAtItsEnd(400, "GET /" + H + "Content-Length: " + value + "\r\n\r\n");
    wrongAtItsEnd(400, "GET /" + H + "Content-Length: 1\r\nContent-Length: 2\r\n\r\n");
    wrongAtItsEnd(400, "GET /" + H + "Content-Length: x\r\nContent-Length: 2\r\n\r\n");
    wrongAtItsEnd(400, "GET /" + H + "Content-Length: 2\r\nContent-Length: 2\r\nContent-Length: 3\r\n\r\n");
    wrongAtItsEnd(400, "GET /" + H + "Content-Length: 2\r\nTransfer-Encoding: chunked\r\n\r\n");
    whole(200, "GET /" + H + "Content-Length: 2\r\ncontent-length:002\r\n\r\nab");
    whole(200, "GET /" + H + "Content-Length: 000000\r\n\r\n");
    wrongAtItsEnd(413, "GET /" + H + "Content-Length: 301\r\n\r\n");
    wrongAtItsEnd(413, "GET /" + H + "Content-Length: 999999\r\n\r\n");
    whole(200, "GET /" + H + "Content-Length: 300\r\n\r\n" + text('x', 300));
    wrongAtItsEnd(411, "PUT /a" + H + "\r\n");
    wrongAtItsEnd(411, "POST /a" + H + "\r\n");
    whole(404, "DELETE /a" + H + "\r\n");
    whole(201, "PUT /a" + H + "Content-Length: 0\r\n\r\n");
  }

  private static void bodies() {
    String put = "PUT /a" + H + "Transfer-Encoding: chunked\r\n\r\n";
    String ends = "0\r\n\r\n";
    whole(201, put + ends);
    whole(201, put + "0000\r\n\r\n");
    whole(201, put + "1\r\n\u0000\r\n" + ends);
    whole(201, put + "a\r\n0123456789\r\nA\r\n0123456789\r\n0001\r\n\r\r\n" + ends);
    whole(201, put + "12c\r\n" + text('x', 300) + "\r\n" + ends);
    whole(201, put + "9\r\n012345678\r\nF\r\n0123456789abcde\r\nf\r\n0123456789abcde\r\n" + ends);
    wrongAtItsEnd(413, put + "12d\r");
    wrongAtItsEnd(413, put + "ffff\r");
    wrongAtItsEnd(413, put + "12c\r\n" + text('x', 300) + "\r\n1\r");
    wrongAtItsEnd(400, put + "\r");
    wrongAtItsEnd(400, put + "g");
    wrongAtItsEnd(400, put + "G");
    wrongAtItsEnd(400, put + "/");
    wrongAtItsEnd(400, put + ":");
    wrongAtItsEnd(400, put + "00000");
    wrongAtItsEnd(400, put + "1;");
    wrongAtItsEnd(400, put + "1\n");
    wrongAtItsEnd(400, put + "1\r1");
    wrongAtItsEnd(400, put + "1\r\nxx");
    wrongAtItsEnd(400, put + "1\r\nx\rx");
    wrongAtItsEnd(400, put + "1\r\nx\r\n\r");
    wrongAtItsEnd(400, put + "0\r\nA");
    wrongAtItsEnd(400, put + "0\r\n\rA");
    RequestTest t = new RequestTest();
    t.ask(put + "3\r\na\rb\r\n2\r\n\n\u00ff\r\n" + ends);
    Check.dueText("the file", t.w.file(0), "/a=a\rb\n\u00ff v1");
    t.ask("PUT /b" + H + "Content-Length: 3\r\n\r\n\r\n\u0000");
    Check.dueText("the other file", t.w.file(1), "/b=\r\n\u0000 v2");
    // Nothing of a request is left for the next one on the connection.
    Check.due("another chunked one", t.code("PUT /c" + H + "Transfer-Encoding: chunked\r\n\r\n0001\r\nx\r\n" + ends), 201);
    Check.dueText("its bytes", t.w.file(2), "/c=x v3");
    Check.due("one of 1.0 that stays", t.code("HEAD / HTTP/1.0\r\nConnection: keep-alive\r\nIf-Match: x\r\n\r\n"), 200);
    Check.due("on the same connection", t.w.x.servedAt(3, 1), 3);
    Check.dueText("no method was read", t.ask("g"),
        "HTTP/1.1 400 Bad Request\r\nContent-Length: 11\r\nConnection: close\r\n\r\nBad Request");
    t = new RequestTest();
    t.ask("GET / HTTP/1.0\r\nConnection: keep-alive\r\n\r\n");
    t.ask("GET / HTTP/1.0\r\n\r\n");
    Check.due("it was not said again", t.w.x.servedAt(1, 5), 1);
  }

  private static void targets() {
    whole(404, "GET /abcdefghijkl" + H + "\r\n");
    RequestTest t = new RequestTest();
    Check.due("all signs", t.code("PUT /az09." + H + "Content-Length: 0\r\n\r\n"), 201);
    Check.due("12 signs", t.code("PUT /abcdefghij.9" + H + "Content-Length: 0\r\n\r\n"), 201);
    String[] none = {"/abcdefghijklm", "/A", "/a/b", "//", "/-", "/a?", "/_", "/{", "/`", "/:", "/*"};
    for (String target : none) {
      Check.due("code of " + target, t.code("PUT " + target + H + "Content-Length: 0\r\n\r\n"), 404);
      Check.due("is not the last one", t.w.x.servedAt(t.w.x.count(10) - 1, 5), 0);
      Check.due("likewise for OPTIONS", t.code("OPTIONS " + target + H + "\r\n"), 404);
    }
    String[] wrong = {"a", "*a", "h://a", "*"};
    for (String target : wrong) {
      Check.due("code of " + target, t.code("GET " + target + H + "\r\n"), 400);
      Check.due("is not the last one", t.w.x.servedAt(t.w.x.count(10) - 1, 5), 0);
    }
    Check.due("OPTIONS of all", t.code("OPTIONS *" + H + "\r\n"), 204);
    Check.due("OPTIONS of no target", t.code("OPTIONS **" + H + "\r\n"), 400);
    Check.due("OPTIONS of a file that is not there", t.code("OPTIONS /q" + H + "\r\n"), 204);
    whole(404, "GET /" + text('a', 39) + H + "\r\n");
    wrongAtItsEnd(414, "GET /" + text('a', 40));
    wrongAtItsEnd(414, "GET " + text('~', 41));
    wrongAtItsEnd(400, "GET /" + text('a', 39) + "\r");
    wrongAtItsEnd(400, "GET /" + text('a', 39) + "\u007f");
  }

  private static void longLines() {
    wrongAtItsEnd(431, text('G', 101));
    wrongAtItsEnd(431, text('G', 100) + " ");
    wrongAtItsEnd(400, text('G', 100) + "\r");
    wrongAtItsEnd(400, text('G', 100) + "1");
    // The 41st byte of the target is the 101st of the line.
    wrongAtItsEnd(414, text('G', 59) + " " + text('/', 41));
    wrongAtItsEnd(431, text('G', 60) + " " + text('/', 40));
    wrongAtItsEnd(431, "GET / " + text('H', 95));
    wrongAtItsEnd(505, "GET / " + text('H', 94) + "\r\n\r\n");
    wrongAtItsEnd(431, "GET / H\r\n" + text('A', 101));
    wrongAtItsEnd(431, "GET / H\r\nA:" + text('A', 99));
    wrongAtItsEnd(431, "GET / H\r\n" + text('A', 100) + ":");
    wrongAtItsEnd(400, "GET / H\r\nA:" + text('A', 98) + "\n");
    wrongAtItsEnd(505, "GET / H\r\nA:" + text('A', 98) + "\r\n\r\n");
    wrongAtItsEnd(505, "GET / H\r\n" + text('A', 99) + ":\r\nB: c\r\n\r\n");
  }

  private static void manyLines() {
    String seven = "A: b\r\n".repeat(7);
    whole(200, "GET /" + H + seven + "\r\n");
    wrongAtItsEnd(431, "GET /" + H + seven + "A");
    wrongAtItsEnd(431, "GET /" + H + seven + "1");
    wrongAtItsEnd(431, "GET /" + H + seven + "\u0000");
    wrongAtItsEnd(400, "GET /" + H + seven + "\rA");
  }

  private static void order() {
    wrongAtItsEnd(505, "QUERY / HTTP/2\r\nContent-Length: x\r\n\r\n");
    wrongAtItsEnd(501, "QUERY / HTTP/1.1\r\nContent-Length: x\r\n\r\n");
    wrongAtItsEnd(501, "PUT / HTTP/1.1\r\nContent-Length: 1\r\nTransfer-Encoding: x\r\n\r\n");
    wrongAtItsEnd(400, "PUT / HTTP/1.1\r\nContent-Length: 301\r\n\r\n");
    wrongAtItsEnd(413, "PUT /a HTTP/1.0\r\nContent-Length: 301\r\n\r\n");
    wrongAtItsEnd(400, "PUT / HTTP/1.1\r\n\r\n");
    wrongAtItsEnd(411, "PUT * HTTP/1.0\r\n\r\n");
  }

  private static void files() {
    RequestTest t = new RequestTest();
    Check.dueText("GET of none", t.ask("GET /a" + H + "\r\n"),
        "HTTP/1.1 404 Not Found\r\nContent-Length: 9\r\n\r\nNot Found");
    Check.dueText("POST to none", t.ask("POST /a" + H + "Content-Length: 1\r\n\r\nx"),
        "HTTP/1.1 404 Not Found\r\nContent-Length: 9\r\n\r\nNot Found");
    Check.dueText("PUT of a new one", t.ask("PUT /a" + H + "Content-Length: 5\r\n\r\nhello"),
        "HTTP/1.1 201 Created\r\nContent-Length: 0\r\nETag: \"v1\"\r\n\r\n");
    Check.dueText("PUT again", t.ask("PUT /a" + H + "Content-Length: 5\r\n\r\nhello"),
        "HTTP/1.1 204 No Content\r\nETag: \"v2\"\r\n\r\n");
    Check.dueText("GET", t.ask("GET /a" + H + "\r\n"),
        "HTTP/1.1 200 OK\r\nContent-Length: 5\r\nETag: \"v2\"\r\n\r\nhello");
    Check.dueText("POST", t.ask("POST /a" + H + "Content-Length: 1\r\n\r\n!"),
        "HTTP/1.1 204 No Content\r\nETag: \"v3\"\r\n\r\n");
    Check.dueText("the file", t.w.file(0), "/a=hello! v3");
    Check.dueText("DELETE", t.ask("DELETE /a" + H + "\r\n"), "HTTP/1.1 204 No Content\r\n\r\n");
    Check.due("no file", t.w.x.count(8), 0);
    Check.due("a version of its own", t.w.x.count(9), 4);
    Check.due("DELETE of none", t.code("DELETE /a" + H + "\r\n"), 404);
    t.ask("PUT /a" + H + "Content-Length: 0\r\n\r\n");
    Check.dueText("an empty file", t.w.file(0), "/a= v5");
    Check.dueText("GET of an empty file", t.ask("GET /a" + H + "\r\n"),
        "HTTP/1.1 200 OK\r\nContent-Length: 0\r\nETag: \"v5\"\r\n\r\n");
    Check.isTrue("agrees", t.w.x.agrees());
  }

  private static void conditions() {
    RequestTest t = new RequestTest();
    String put = "PUT /a" + H + "Content-Length: 1\r\n";
    Check.due("If-Match of no file", t.code(put + "If-Match: *\r\n\r\nx"), 412);
    Check.due("not the last one", t.w.x.servedAt(0, 5), 0);
    Check.due("If-None-Match of no file", t.code(put + "If-None-Match: *\r\n\r\nx"), 201);
    Check.due("If-None-Match of a file", t.code(put + "If-None-Match: *\r\n\r\nx"), 412);
    Check.due("another tag", t.code(put + "If-Match: \"v2\"\r\n\r\nx"), 412);
    Check.due("its tag", t.code(put + "If-Match: \"v1\"\r\n\r\nx"), 204);
    String[] wrong = {"\"v02\"", "v2", "\"v2", "v2\"", "\"V2\"", "\"v2\" x", "W/\"v2\"", "**", "", "\"v2\",\"v2\"", "\"v\"",
        "\"v1\"", "\"v22\""};
    for (String tag : wrong) {
      Check.due("no tag " + tag, t.code(put + "If-Match: " + tag + "\r\n\r\nx"), 412);
      Check.due("no tag " + tag, t.code("GET /a" + H + "If-None-Match: " + tag + "\r\n\r\n"), 200);
    }
    Check.dueText("412", t.ask(put + "If-Match: \r\n\r\nx"),
        "HTTP/1.1 412 Precondition Failed\r\nContent-Length: 19\r\n\r\nPrecondition Failed");
    Check.dueText("304", t.ask("GET /a" + H + "If-None-Match: \"v2\"  \r\n\r\n"),
        "HTTP/1.1 304 Not Modified\r\nETag: \"v2\"\r\n\r\n");
    Check.due("304 of any", t.code("GET /a" + H + "if-none-match:*\r\n\r\n"), 304);
    Check.due("304 of HEAD", t.code("HEAD /a" + H + "if-none-match:*\r\n\r\n"), 304);
    Check.due("the last one counts", t.code("GET /a" + H + "If-Match: x\r\nIf-Match: *\r\n\r\n"), 200);
    Check.due("412 ahead of 304", t.code("GET /a" + H + "If-None-Match: *\r\nIf-Match: x\r\n\r\n"), 412);
    Check.due("304 ahead of ranges", t.code("GET /a" + H + "Range: bytes=9-\r\nIf-None-Match: *\r\n\r\n"), 304);
    Check.due("404 ahead of 412", t.code("GET /b" + H + "If-Match: *\r\n\r\n"), 404);
    String post = "POST /a" + H + "Content-Length: 1\r\n";
    Check.due("POST", t.code(post + "If-Match: \"v1\"\r\n\r\nx"), 412);
    Check.due("POST of none", t.code("POST /b" + H + "Content-Length: 0\r\nIf-Match: \"v1\"\r\n\r\n"), 404);
    Check.due("POST, none", t.code(post + "If-None-Match: \"v2\"\r\n\r\nx"), 412);
    Check.due("POST that fits", t.code(post + "If-Match: \"v2\"\r\nIf-None-Match: \"v1\"\r\n\r\nx"), 204);
    Check.due("DELETE", t.code("DELETE /a" + H + "If-Match: \"v2\"\r\n\r\n"), 412);
    Check.due("DELETE, none", t.code("DELETE /a" + H + "If-None-Match: \"v3\"\r\n\r\n"), 412);
    Check.due("DELETE of none", t.code("DELETE /b" + H + "If-Match: \"v2\"\r\n\r\n"), 404);
    Check.due("DELETE that fits", t.code("DELETE /a" + H + "If-Match: \"v3\"\r\n\r\n"), 204);
    for (int k = 5; k < 13; k++) t.ask("PUT /a" + H + "Content-Length: 0\r\n\r\n");
    Check.due("a tag of two digits", t.code("GET /a" + H + "If-None-Match: \"v12\"\r\n\r\n"), 304);
    Check.due("not the first digit", t.code("GET /a" + H + "If-None-Match: \"v1\"\r\n\r\n"), 200);
    Check.isTrue("agrees", t.w.x.agrees());
  }

  private static void ranges() {
    RequestTest t = new RequestTest();
    t.ask("PUT /a" + H + "Content-Length: 10\r\n\r\n0123456789");
    t.ask("PUT /e" + H + "Content-Length: 0\r\n\r\n");
    String get = "GET /a" + H + "Range: ";
    Check.dueText("A-B", t.ask(get + "bytes=2-4\r\n\r\n"), "HTTP/1.1 206 Partial Content\r\nContent-Length: 3\r\n"
        + "ETag: \"v1\"\r\nContent-Range: bytes 2-4/10\r\n\r\n234");
    Check.dueText("A-", t.ask(get + "bytes=9-\r\n\r\n"), "HTTP/1.1 206 Partial Content\r\nContent-Length: 1\r\n"
        + "ETag: \"v1\"\r\nContent-Range: bytes 9-9/10\r\n\r\n9");
    Check.dueText("-N", t.ask(get + "bytes=-3\r\n\r\n"), "HTTP/1.1 206 Partial Content\r\nContent-Length: 3\r\n"
        + "ETag: \"v1\"\r\nContent-Range: bytes 7-9/10\r\n\r\n789");
    Check.dueText("416", t.ask(get + "bytes=10-\r\n\r\n"), "HTTP/1.1 416 Range Not Satisfiable\r\nContent-Length: 21"
        + "\r\nContent-Range: bytes */10\r\n\r\nRange Not Satisfiable");
    Check.isTrue("B at most the last", t.ask(get + "bytes=0-999999\r\n\r\n").contains("bytes 0-9/10\r\n\r\n0123456789"));
    Check.isTrue("B is the last", t.ask(get + "bytes=9-9\r\n\r\n").contains("bytes 9-9/10"));
    Check.isTrue("zeros ahead", t.ask(get + "bytes=000001-02\r\n\r\n").contains("bytes 1-2/10"));
    Check.isTrue("N beyond", t.ask(get + "bytes=-11\r\n\r\n").contains("bytes 0-9/10"));
    Check.due("B less than A", t.code(get + "bytes=5-4\r\n\r\n"), 416);
    Check.due("B less than A, beyond", t.code(get + "bytes=15-4\r\n\r\n"), 416);
    Check.due("A beyond", t.code(get + "bytes=10-12\r\n\r\n"), 416);
    Check.due("N is 0", t.code(get + "bytes=-0\r\n\r\n"), 416);
    String[] none = {"bytes=", "bytes=-", "bytes=1", "Bytes=1-2", "bytes 1-2", "bytes=1-2,3-4", "bytes=1--2", "bytes=--2",
        "bytes=1234567-", "bytes=1-1234567", "bytes=-1234567", "bytes=a-b", "bytes= 1-2", "bytes=1 -2", "bytes=1-2x",
        "", "bytes=x-2", "octets=1-2"};
    for (String range : none) Check.due("no range " + range, t.code(get + range + "\r\n\r\n"), 200);
    Check.due("an empty file", t.code("GET /e" + H + "Range: bytes=0-\r\n\r\n"), 416);
    Check.due("an empty file's last", t.code("GET /e" + H + "Range: bytes=-1\r\n\r\n"), 416);
    Check.isTrue("its size", t.ask("GET /e" + H + "Range: bytes=0-0\r\n\r\n").contains("bytes */0\r\n"));
    Check.dueText("HEAD", t.ask("HEAD /a" + H + "Range: bytes=0-1\r\n\r\n"), "HTTP/1.1 206 Partial Content\r\n"
        + "Content-Length: 2\r\nETag: \"v1\"\r\nContent-Range: bytes 0-1/10\r\n\r\n");
    Check.due("the last line counts", t.code(get + "bytes=1-\r\nRange: no\r\n\r\n"), 200);
    Check.due("PUT has none", t.code("PUT /a" + H + "Range: bytes=99-\r\nContent-Length: 0\r\n\r\n"), 204);
  }

  private static void lists() {
    RequestTest t = new RequestTest();
    Check.dueText("an empty list", t.ask("GET /" + H + "\r\n"),
        "HTTP/1.1 200 OK\r\nContent-Length: 0\r\nETag: \"v0\"\r\n\r\n");
    String[] names = {"/b", "/a", "/ab", "/.", "/9", "/a.", "/a0"};
    for (String name : names) t.ask("PUT " + name + H + "Content-Length: 1\r\n\r\n" + name.charAt(1));
    Check.dueText("by their bytes", t.ask("GET /" + H + "If-None-Match: *\r\nIf-Match: x\r\nRange: bytes=1-\r\n\r\n"),
        "HTTP/1.1 200 OK\r\nContent-Length: 24\r\nETag: \"v7\"\r\n\r\n/.\n/9\n/a\n/a.\n/a0\n/ab\n/b\n");
    Check.dueText("the fourth", t.w.file(3), "/a.=a v6");
    t.ask("DELETE /a" + H + "\r\n");
    Check.dueText("one less", t.ask("GET /" + H + "\r\n"),
        "HTTP/1.1 200 OK\r\nContent-Length: 21\r\nETag: \"v8\"\r\n\r\n/.\n/9\n/a.\n/a0\n/ab\n/b\n");
    Check.dueText("the others stay", t.w.file(5), "/b=b v1");
    Check.dueText("HEAD of it", t.ask("HEAD /" + H + "\r\n"),
        "HTTP/1.1 200 OK\r\nContent-Length: 21\r\nETag: \"v8\"\r\n\r\n");
    String refused = "HTTP/1.1 405 Method Not Allowed\r\nContent-Length: 18\r\nAllow: GET, HEAD, OPTIONS\r\n\r\n"
        + "Method Not Allowed";
    Check.dueText("PUT", t.ask("PUT /" + H + "Content-Length: 0\r\n\r\n"), refused);
    Check.dueText("POST", t.ask("POST /" + H + "Content-Length: 0\r\n\r\n"), refused);
    Check.dueText("DELETE", t.ask("DELETE /" + H + "If-Match: x\r\n\r\n"), refused);
  }

  private static void fullHouse() {
    RequestTest t = new RequestTest();
    for (int k = 0; k < 8; k++) Check.due("file", t.code("PUT /" + k + H + "Content-Length: 0\r\n\r\n"), 201);
    Check.dueText("a ninth", t.ask("PUT /8" + H + "Content-Length: 0\r\n\r\n"),
        "HTTP/1.1 507 Insufficient Storage\r\nContent-Length: 20\r\n\r\nInsufficient Storage");
    Check.due("not the last one", t.w.x.servedAt(8, 5), 0);
    Check.due("412 is ahead of it", t.code("PUT /8" + H + "Content-Length: 0\r\nIf-Match: *\r\n\r\n"), 412);
    Check.due("no version", t.w.x.count(9), 8);
    Check.due("one that is there", t.code("PUT /7" + H + "Content-Length: 0\r\n\r\n"), 204);
    t.ask("DELETE /3" + H + "\r\n");
    Check.due("now there is room", t.code("PUT /8" + H + "Content-Length: 0\r\n\r\n"), 201);
    Check.due("files", t.w.x.count(8), 8);
    for (int k = 0; k < 3; k++) t.ask("DELETE /" + k + H + "\r\n");
    for (int k = 0; k < 3; k++) t.ask("PUT /" + k + "x" + H + "Content-Length: 2\r\n\r\nb" + k);
    t.ask("PUT /7" + H + "Content-Length: 1\r\n\r\nq");
    String[] due = {"/0x=b0 v15", "/1x=b1 v16", "/2x=b2 v17", "/4= v5", "/5= v6", "/6= v7", "/7=q v18", "/8= v11"};
    // Each has a place of its own, also behind those that are gone.
    for (int k = 0; k < 8; k++) Check.dueText("file " + k, t.w.file(k), due[k]);
    Check.isTrue("agrees", t.w.x.agrees());
  }

  private static void sizes() {
    RequestTest t = new RequestTest();
    t.ask("PUT /a" + H + "Content-Length: 299\r\n\r\n" + text('a', 299));
    Check.dueText("above 300", t.ask("POST /a" + H + "Content-Length: 2\r\n\r\nxx"),
        "HTTP/1.1 413 Content Too Large\r\nContent-Length: 17\r\n\r\nContent Too Large");
    Check.due("not the last one", t.w.x.servedAt(1, 5), 0);
    Check.due("the size", t.w.x.fileAt(0, 0), 299);
    Check.due("just 300", t.code("POST /a" + H + "Content-Length: 1\r\n\r\nx"), 204);
    Check.due("412 ahead of 413", t.code("POST /a" + H + "Content-Length: 1\r\nIf-Match: x\r\n\r\nx"), 412);
    Check.due("nothing more", t.code("POST /a" + H + "Content-Length: 0\r\n\r\n"), 204);
    Check.due("size", t.w.x.fileAt(0, 0), 300);
    Check.due("the file is sent", t.ask("GET /a" + H + "\r\n").length(), 52 + 300);
  }

  private static void allowing() {
    RequestTest t = new RequestTest();
    String all = "HTTP/1.1 204 No Content\r\nAllow: GET, HEAD, PUT, POST, DELETE, OPTIONS\r\n\r\n";
    Check.dueText("of a file", t.ask("OPTIONS /x" + H + "\r\n"), all);
    Check.dueText("of the list", t.ask("OPTIONS /" + H + "If-Match: x\r\n\r\n"), all);
    Check.dueText("of all", t.ask("OPTIONS *" + H + "Content-Length: 2\r\n\r\nab"), all);
  }

  private static void headsOnly() {
    RequestTest t = new RequestTest();
    t.ask("PUT /a" + H + "Content-Length: 5\r\n\r\nhello");
    Check.dueText("HEAD", t.ask("HEAD /a" + H + "\r\n"),
        "HTTP/1.1 200 OK\r\nContent-Length: 5\r\nETag: \"v1\"\r\n\r\n");
    Check.dueText("404", t.ask("HEAD /b" + H + "\r\n"), "HTTP/1.1 404 Not Found\r\nContent-Length: 9\r\n\r\n");
    Check.dueText("505", t.ask("HEAD /b H\r\n\r\n"),
        "HTTP/1.1 505 HTTP Version Not Supported\r\nContent-Length: 26\r\nConnection: close\r\n\r\n");
    Check.dueText("its method was read whole", t.ask("HEAD \r"),
        "HTTP/1.1 400 Bad Request\r\nContent-Length: 11\r\nConnection: close\r\n\r\n");
    Check.dueText("it was not", t.ask("HEAD\r"),
        "HTTP/1.1 400 Bad Request\r\nContent-Length: 11\r\nConnection: close\r\n\r\nBad Request");
    Check.dueText("414", t.ask("HEAD " + text('/', 41)),
        "HTTP/1.1 414 URI Too Long\r\nContent-Length: 12\r\nConnection: close\r\n\r\n");
    Check.dueText("GET with 414", t.ask("GET " + text('/', 41)),
        "HTTP/1.1 414 URI Too Long\r\nContent-Length: 12\r\nConnection: close\r\n\r\nURI Too Long");
    Check.dueText("431", t.ask("GET / " + text('/', 95)), "HTTP/1.1 431 Request Header Fields Too Large\r\n"
        + "Content-Length: 31\r\nConnection: close\r\n\r\nRequest Header Fields Too Large");
    Check.dueText("501", t.ask("X / HTTP/1.0\r\n\r\n"),
        "HTTP/1.1 501 Not Implemented\r\nContent-Length: 15\r\nConnection: close\r\n\r\nNot Implemented");
    Check.dueText("411", t.ask("PUT /a HTTP/1.0\r\n\r\n"),
        "HTTP/1.1 411 Length Required\r\nContent-Length: 15\r\nConnection: close\r\n\r\nLength Required");
  }

  private static void staying() {
    wholeButLast(200, "GET /" + H + "Connection: close\r\n\r\n", 1);
    wholeButLast(200, "GET /" + H + "connection:CLOSE  \r\n\r\n", 1);
    wholeButLast(200, "GET /" + H + "Connection: close, x\r\n\r\n", 0);
    wholeButLast(200, "GET /" + H + "Connection: keep-alive\r\n\r\n", 0);
    wholeButLast(200, "GET /" + H + "Connection: close\r\nConnection: x\r\n\r\n", 0);
    wholeButLast(200, "GET / HTTP/1.0\r\nConnection: Keep-Alive\r\n\r\n", 0);
    wholeButLast(200, "GET / HTTP/1.0\r\nConnection: keep-alive\r\nConnection: close\r\n\r\n", 1);
    wholeButLast(404, "GET /a HTTP/1.0\r\n\r\n", 1);
    wholeButLast(400, "GET a" + H + "Connection: close\r\n\r\n", 1);
    wholeButLast(204, "OPTIONS *" + H + "Connection: close\r\n\r\n", 1);
    RequestTest t = new RequestTest();
    Check.dueText("the last line of the head", t.ask("OPTIONS *" + H + "Connection: close\r\n\r\n"), "HTTP/1.1 204 "
        + "No Content\r\nAllow: GET, HEAD, PUT, POST, DELETE, OPTIONS\r\nConnection: close\r\n\r\n");
    Check.due("the server closed", t.w.x.connectionAt(t.connection, 0), Lanternserver.CLOSE_WAIT);
    Check.due("the end was told", t.w.x.connectionAt(t.connection, 18), 1);
    t.w.write(t.connection, "GET /" + H + "\r\n");
    t.w.x.settle(5);
    Check.due("nothing more is served", t.w.x.count(10), 1);
    Check.due("what comes then is not read", t.w.x.connectionAt(1, 12), 25 + 2);
  }

  private static void oneAfterTheOther() {
    RequestTest t = new RequestTest();
    t.open();
    t.w.write(t.connection, "PUT /a" + H + "Content-Length: 1\r\n\r\nxGET /a" + H + "\r\nGET / HTTP/1.0\r\n\r\nGET");
    t.w.x.settle(5);
    Check.due("served at once", t.w.x.count(10), 3);
    int[] due = {201, 200, 200};
    for (int k = 0; k < 3; k++) {
      Check.due("code " + k, t.w.x.servedAt(k, 2), due[k]);
      Check.due("number on it", t.w.x.servedAt(k, 1), k);
      Check.due("connection", t.w.x.servedAt(k, 0), 1);
    }
    Check.dueText("answers in order", t.w.readAll(t.connection), t.w.answer(0) + t.w.answer(1) + t.w.answer(2));
    t = new RequestTest();
    t.open();
    for (char sign : "GET / HTTP/1.0\r\n\r\n".toCharArray()) {
      Check.due("not whole", t.w.x.count(10), 0);
      t.w.write(t.connection, String.valueOf(sign));
      t.w.x.settle(1);
    }
    Check.due("whole by its last byte", t.w.x.count(10), 1);
  }

  /** An answer that finds no room is written when there is some; and the next request waits for that. */
  private static void longAnswers() {
    RequestTest t = new RequestTest();
    t.ask("PUT /a" + H + "Content-Length: 300\r\n\r\n" + text('a', 300));
    t.w.write(t.connection, ("GET /a" + H + "\r\n").repeat(5));
    t.w.x.settle(5);
    // The window of 300 is full, 600 bytes are written: so of 352 each the third one has begun.
    Check.due("three of five are served", t.w.x.count(10), 1 + 3);
    Check.due("bytes not acknowledged", t.w.x.connectionAt(1, 11), 600);
    Check.due("requests that wait", t.w.x.connectionAt(1, 12), 2 * 28);
    String got = t.w.readAll(t.connection);
    Check.due("all are served", t.w.x.count(10), 1 + 5);
    Check.due("all was read", got.length(), 5 * 352);
    Check.dueText("the last one", got.substring(4 * 352), t.w.answer(5));
    Check.isTrue("agrees", t.w.x.agrees());
    Check.due("errors", t.w.x.errors(), 0);
  }

  private static void ends() {
    RequestTest t = new RequestTest();
    t.open();
    t.w.write(t.connection, "GET / HTT");
    t.w.x.close(t.connection, false);
    t.w.x.settle(5);
    Check.due("one that is not whole is none", t.w.x.count(10), 0);
    Check.due("the server closed it", t.w.x.connectionAt(1, 0), Lanternserver.CLOSED);
    Check.due("the end was told to the server", t.w.x.connectionAt(1, 18), 1);
    t = new RequestTest();
    t.open();
    t.w.write(t.connection, "GET /" + H + "\r\n");
    t.w.x.close(t.connection, false);
    t.w.x.settle(5);
    Check.dueText("a whole one is answered", t.w.readAll(t.connection), t.w.answer(0));
    Check.due("not as the last one", t.w.x.servedAt(0, 5), 0);
    Check.isTrue("agrees", t.w.x.agrees());
  }

  private static void served() {
    RequestTest t = new RequestTest();
    t.open();
    t.w.x.pass(7);
    t.ask("GET /" + H + "\r\n");
    Lanternserver x = t.w.x;
    int[] due = {1, 0, 200, 50, 27, 0, 47};
    for (int what = 0; what <= 6; what++) Check.due("served " + what, x.servedAt(0, what), due[what]);
    Check.noIndex("no request", () -> x.servedAt(1, 9));
    Check.noIndex("request -1", () -> x.servedAt(-1, 0));
    Check.noArgument("what 7", () -> x.servedAt(0, 7));
    Check.noArgument("what -1", () -> x.servedAt(0, -1));
    Check.due("first byte", x.answerAt(0, 0), 'H');
    Check.due("last byte", x.answerAt(0, 49), 10);
    Check.noIndex("byte 50", () -> x.answerAt(0, 50));
    Check.noIndex("byte -1", () -> x.answerAt(0, -1));
    Check.noIndex("no such request", () -> x.answerAt(1, 0));
  }

  private static void askedForFiles() {
    RequestTest t = new RequestTest();
    Lanternserver x = t.w.x;
    Check.noIndex("no file", () -> x.fileAt(0, 9));
    t.ask("PUT /bb" + H + "Content-Length: 3\r\n\r\nxyz");
    t.ask("PUT /a" + H + "Content-Length: 0\r\n\r\n");
    int[] due = {3, 1, 3};
    for (int what = 0; what <= 2; what++) Check.due("file " + what, x.fileAt(1, what), due[what]);
    Check.noIndex("file 2", () -> x.fileAt(2, 0));
    Check.noIndex("file -1", () -> x.fileAt(-1, 0));
    Check.noArgument("what 3", () -> x.fileAt(0, 3));
    Check.noArgument("what -1", () -> x.fileAt(0, -1));
    Check.due("of its name", x.fileByteAt(1, true, 0), '/');
    Check.due("of its bytes", x.fileByteAt(1, false, 2), 'z');
    Check.noIndex("byte 3", () -> x.fileByteAt(1, false, 3));
    Check.noIndex("byte 3 of the name", () -> x.fileByteAt(1, true, 3));
    Check.noIndex("byte -1", () -> x.fileByteAt(1, true, -1));
    Check.noIndex("an empty file", () -> x.fileByteAt(0, false, 0));
    Check.noIndex("byte of no file", () -> x.fileByteAt(2, true, 0));
    Check.noIndex("byte of file -1", () -> x.fileByteAt(-1, true, 0));
  }
}
