/-! contracts of methods and their checks (printed by emit.py) -/
section
set_option maxRecDepth 100000
/-- WishReader atom -/
def bC38 : bCt := (38, [.inr [31], .inl (false, 2, .ofNat 0)], [(.ofNat 0, .ofNat 0), (.ofNat 0, .ofNat 3072), (.ofNat 0, .ofNat 255), (.ofNat 0, .ofNat 399)], [(1, [(3, .inl (3, .ofNat 0))])], [(some (.inl (false, 4, .ofNat 0)), [(.ofNat 0, .ofNat 0), (.ofNat 0, .ofNat 3072), (.ofNat 0, .ofNat 255), (.ofNat 0, .ofNat 399), (.ofNat 0, .ofNat 1)], [])], 1856910058928070412348882944, 3)
theorem bK38 : bCk bSp (bCc [bC39, bC40b, bC40c, bC40, bC41, bC41a, bC41b, bC41c, bC41d, bC41e, bC41f, bC41g, bC41h, bC41i]) 20000 [] bC38 = true := by decide +kernel
/-- WishReader atom -/
def bC38a : bCt := (38, [.inr [31], .inl (false, 0, .negSucc 0)], [(.ofNat 0, .ofNat 0), (.ofNat 0, .ofNat 3072)], [], [(some (.inl (false, 0, .ofNat 0)), [(.ofNat 0, .ofNat 0), (.ofNat 0, .ofNat 3072)], [])], 131072, 2)
theorem bK38a : bCk bSp (bCc [bC39]) 20000 [] bC38a = true := by decide +kernel
/-- WishReader piece -/
def bC36 : bCt := (36, [.inr [31], .inl (false, 0, .ofNat 6)], [(.ofNat 0, .ofNat 0), (.ofNat 0, .ofNat 3072)], [], [(some (.inl (false, 2, .ofNat 0)), [(.ofNat 0, .ofNat 0), (.ofNat 0, .ofNat 3072), (.ofNat 0, .ofNat 1)], [])], 1856910058928070412348882944, 4)
theorem bK36 : bCk bSp (bCc [bC38, bC38a, bC39]) 20000 [] bC36 = true := by decide +kernel
def bC41j : bCt := (41, [.inr [31], .inl (false, 0, .ofNat 6), .inl (false, 0, .ofNat 0), .inl (false, 0, .ofNat 0)], [(.ofNat 0, .ofNat 0), (.ofNat 0, .ofNat 3072)], [], [(none, [(.ofNat 0, .ofNat 0), (.ofNat 0, .ofNat 3072)], [])], 1856910058928070412348686336, 1)
/-- WishReader allOf -/
def bC35 : bCt := (35, [.inr [31], .inl (false, 0, .ofNat 6)], [(.ofNat 0, .ofNat 0), (.ofNat 0, .ofNat 3072)], [], [(some (.inl (false, 2, .ofNat 0)), [(.ofNat 0, .ofNat 0), (.ofNat 0, .ofNat 3072), (.ofNat 0, .ofNat 1)], [])], 1856910058928070412348882944, 5)
def bN35_0 : bNq := (4, 35, 12, [some (.inr [31]), some (.inl (false, 0, .ofNat 6)), some (.inl (false, 2, .ofNat 0))], [], [], ([(.ofNat 0, .ofNat 0), (.ofNat 0, .ofNat 3072), (.ofNat 0, .ofNat 40)], []), ([], 1856910058928070412348882944), (.ofNat 40, [(2, .negSucc 0)]))
theorem bK35 : bCk bSp (bCc [bC36, bC41j]) 20000 [bN35_0] bC35 = true := by decide +kernel
def bC41k : bCt := (41, [.inr [31], .inl (false, 0, .ofNat 7), .inl (false, 0, .ofNat 0), .inl (false, 0, .ofNat 0)], [(.ofNat 0, .ofNat 0), (.ofNat 0, .ofNat 3072)], [], [(none, [(.ofNat 0, .ofNat 0), (.ofNat 0, .ofNat 3072)], [])], 1856910058928070412348686336, 1)
/-- WishReader oneOf -/
def bC34 : bCt := (34, [.inr [31], .inl (false, 0, .ofNat 6)], [(.ofNat 0, .ofNat 0), (.ofNat 0, .ofNat 3072)], [], [(some (.inl (false, 2, .ofNat 0)), [(.ofNat 0, .ofNat 0), (.ofNat 0, .ofNat 3072), (.ofNat 0, .ofNat 1)], [])], 1856910058928070412348882944, 6)
def bN34_0 : bNq := (5, 34, 12, [some (.inr [31]), some (.inl (false, 0, .ofNat 6)), some (.inl (false, 2, .ofNat 0))], [], [], ([(.ofNat 0, .ofNat 0), (.ofNat 0, .ofNat 3072), (.ofNat 0, .ofNat 40)], []), ([], 1856910058928070412348882944), (.ofNat 40, [(2, .negSucc 0)]))
theorem bK34 : bCk bSp (bCc [bC35, bC41k]) 20000 [bN34_0] bC34 = true := by decide +kernel
def bC41l : bCt := (41, [.inr [31], .inl (false, 0, .ofNat 5), .inl (false, 0, .ofNat 0), .inl (false, 0, .ofNat 0)], [(.ofNat 0, .ofNat 0), (.ofNat 0, .ofNat 3072)], [], [(none, [(.ofNat 0, .ofNat 0), (.ofNat 0, .ofNat 3072)], [])], 1856910058928070412348686336, 1)
/-- WishReader piece -/
def bC36a : bCt := (36, [.inr [31], .inl (false, 0, .ofNat 5)], [(.ofNat 0, .ofNat 0), (.ofNat 0, .ofNat 3072)], [], [(some (.inl (false, 2, .ofNat 0)), [(.ofNat 0, .ofNat 0), (.ofNat 0, .ofNat 3072), (.ofNat 0, .ofNat 1)], [])], 1856910058928070412348882944, 8)
theorem bK36a : bCk bSp (bCc [bC34, bC36, bC38, bC38a, bC39, bC41l]) 20000 [] bC36a = true := by decide +kernel
/-- WishReader allOf -/
def bC35a : bCt := (35, [.inr [31], .inl (false, 0, .ofNat 5)], [(.ofNat 0, .ofNat 0), (.ofNat 0, .ofNat 3072)], [], [(some (.inl (false, 2, .ofNat 0)), [(.ofNat 0, .ofNat 0), (.ofNat 0, .ofNat 3072), (.ofNat 0, .ofNat 1)], [])], 1856910058928070412348882944, 9)
def bN35a_0 : bNq := (8, 35, 12, [some (.inr [31]), some (.inl (false, 0, .ofNat 5)), some (.inl (false, 2, .ofNat 0))], [], [], ([(.ofNat 0, .ofNat 0), (.ofNat 0, .ofNat 3072), (.ofNat 0, .ofNat 40)], []), ([], 1856910058928070412348882944), (.ofNat 40, [(2, .negSucc 0)]))
theorem bK35a : bCk bSp (bCc [bC36a, bC41j]) 20000 [bN35a_0] bC35a = true := by decide +kernel
/-- WishReader oneOf -/
def bC34a : bCt := (34, [.inr [31], .inl (false, 0, .ofNat 5)], [(.ofNat 0, .ofNat 0), (.ofNat 0, .ofNat 3072)], [], [(some (.inl (false, 2, .ofNat 0)), [(.ofNat 0, .ofNat 0), (.ofNat 0, .ofNat 3072), (.ofNat 0, .ofNat 1)], [])], 1856910058928070412348882944, 10)
def bN34a_0 : bNq := (9, 34, 12, [some (.inr [31]), some (.inl (false, 0, .ofNat 5)), some (.inl (false, 2, .ofNat 0))], [], [], ([(.ofNat 0, .ofNat 0), (.ofNat 0, .ofNat 3072), (.ofNat 0, .ofNat 40)], []), ([], 1856910058928070412348882944), (.ofNat 40, [(2, .negSucc 0)]))
theorem bK34a : bCk bSp (bCc [bC35a, bC41k]) 20000 [bN34a_0] bC34a = true := by decide +kernel
/-- WishReader piece -/
def bC36b : bCt := (36, [.inr [31], .inl (false, 0, .ofNat 4)], [(.ofNat 0, .ofNat 0), (.ofNat 0, .ofNat 3072)], [], [(some (.inl (false, 2, .ofNat 0)), [(.ofNat 0, .ofNat 0), (.ofNat 0, .ofNat 3072), (.ofNat 0, .ofNat 1)], [])], 1856910058928070412348882944, 12)
theorem bK36b : bCk bSp (bCc [bC34a, bC36a, bC38, bC38a, bC39, bC41l]) 20000 [] bC36b = true := by decide +kernel
/-- WishReader allOf -/
def bC35b : bCt := (35, [.inr [31], .inl (false, 0, .ofNat 4)], [(.ofNat 0, .ofNat 0), (.ofNat 0, .ofNat 3072)], [], [(some (.inl (false, 2, .ofNat 0)), [(.ofNat 0, .ofNat 0), (.ofNat 0, .ofNat 3072), (.ofNat 0, .ofNat 1)], [])], 1856910058928070412348882944, 13)
def bN35b_0 : bNq := (12, 35, 12, [some (.inr [31]), some (.inl (false, 0, .ofNat 4)), some (.inl (false, 2, .ofNat 0))], [], [], ([(.ofNat 0, .ofNat 0), (.ofNat 0, .ofNat 3072), (.ofNat 0, .ofNat 40)], []), ([], 1856910058928070412348882944), (.ofNat 40, [(2, .negSucc 0)]))
theorem bK35b : bCk bSp (bCc [bC36b, bC41j]) 20000 [bN35b_0] bC35b = true := by decide +kernel
/-- WishReader oneOf -/
def bC34b : bCt := (34, [.inr [31], .inl (false, 0, .ofNat 4)], [(.ofNat 0, .ofNat 0), (.ofNat 0, .ofNat 3072)], [], [(some (.inl (false, 2, .ofNat 0)), [(.ofNat 0, .ofNat 0), (.ofNat 0, .ofNat 3072), (.ofNat 0, .ofNat 1)], [])], 1856910058928070412348882944, 14)
def bN34b_0 : bNq := (13, 34, 12, [some (.inr [31]), some (.inl (false, 0, .ofNat 4)), some (.inl (false, 2, .ofNat 0))], [], [], ([(.ofNat 0, .ofNat 0), (.ofNat 0, .ofNat 3072), (.ofNat 0, .ofNat 40)], []), ([], 1856910058928070412348882944), (.ofNat 40, [(2, .negSucc 0)]))
theorem bK34b : bCk bSp (bCc [bC35b, bC41k]) 20000 [bN34b_0] bC34b = true := by decide +kernel
/-- WishReader piece -/
def bC36c : bCt := (36, [.inr [31], .inl (false, 0, .ofNat 3)], [(.ofNat 0, .ofNat 0), (.ofNat 0, .ofNat 3072)], [], [(some (.inl (false, 2, .ofNat 0)), [(.ofNat 0, .ofNat 0), (.ofNat 0, .ofNat 3072), (.ofNat 0, .ofNat 1)], [])], 1856910058928070412348882944, 16)
theorem bK36c : bCk bSp (bCc [bC34b, bC36b, bC38, bC38a, bC39, bC41l]) 20000 [] bC36c = true := by decide +kernel
/-- WishReader allOf -/
def bC35c : bCt := (35, [.inr [31], .inl (false, 0, .ofNat 3)], [(.ofNat 0, .ofNat 0), (.ofNat 0, .ofNat 3072)], [], [(some (.inl (false, 2, .ofNat 0)), [(.ofNat 0, .ofNat 0), (.ofNat 0, .ofNat 3072), (.ofNat 0, .ofNat 1)], [])], 1856910058928070412348882944, 17)
def bN35c_0 : bNq := (16, 35, 12, [some (.inr [31]), some (.inl (false, 0, .ofNat 3)), some (.inl (false, 2, .ofNat 0))], [], [], ([(.ofNat 0, .ofNat 0), (.ofNat 0, .ofNat 3072), (.ofNat 0, .ofNat 40)], []), ([], 1856910058928070412348882944), (.ofNat 40, [(2, .negSucc 0)]))
theorem bK35c : bCk bSp (bCc [bC36c, bC41j]) 20000 [bN35c_0] bC35c = true := by decide +kernel
/-- WishReader oneOf -/
def bC34c : bCt := (34, [.inr [31], .inl (false, 0, .ofNat 3)], [(.ofNat 0, .ofNat 0), (.ofNat 0, .ofNat 3072)], [], [(some (.inl (false, 2, .ofNat 0)), [(.ofNat 0, .ofNat 0), (.ofNat 0, .ofNat 3072), (.ofNat 0, .ofNat 1)], [])], 1856910058928070412348882944, 18)
def bN34c_0 : bNq := (17, 34, 12, [some (.inr [31]), some (.inl (false, 0, .ofNat 3)), some (.inl (false, 2, .ofNat 0))], [], [], ([(.ofNat 0, .ofNat 0), (.ofNat 0, .ofNat 3072), (.ofNat 0, .ofNat 40)], []), ([], 1856910058928070412348882944), (.ofNat 40, [(2, .negSucc 0)]))
theorem bK34c : bCk bSp (bCc [bC35c, bC41k]) 20000 [bN34c_0] bC34c = true := by decide +kernel
/-- WishReader piece -/
def bC36d : bCt := (36, [.inr [31], .inl (false, 0, .ofNat 2)], [(.ofNat 0, .ofNat 0), (.ofNat 0, .ofNat 3072)], [], [(some (.inl (false, 2, .ofNat 0)), [(.ofNat 0, .ofNat 0), (.ofNat 0, .ofNat 3072), (.ofNat 0, .ofNat 1)], [])], 1856910058928070412348882944, 20)
theorem bK36d : bCk bSp (bCc [bC34c, bC36c, bC38, bC38a, bC39, bC41l]) 20000 [] bC36d = true := by decide +kernel
/-- WishReader allOf -/
def bC35d : bCt := (35, [.inr [31], .inl (false, 0, .ofNat 2)], [(.ofNat 0, .ofNat 0), (.ofNat 0, .ofNat 3072)], [], [(some (.inl (false, 2, .ofNat 0)), [(.ofNat 0, .ofNat 0), (.ofNat 0, .ofNat 3072), (.ofNat 0, .ofNat 1)], [])], 1856910058928070412348882944, 21)
def bN35d_0 : bNq := (20, 35, 12, [some (.inr [31]), some (.inl (false, 0, .ofNat 2)), some (.inl (false, 2, .ofNat 0))], [], [], ([(.ofNat 0, .ofNat 0), (.ofNat 0, .ofNat 3072), (.ofNat 0, .ofNat 40)], []), ([], 1856910058928070412348882944), (.ofNat 40, [(2, .negSucc 0)]))
theorem bK35d : bCk bSp (bCc [bC36d, bC41j]) 20000 [bN35d_0] bC35d = true := by decide +kernel
/-- WishReader oneOf -/
def bC34d : bCt := (34, [.inr [31], .inl (false, 0, .ofNat 2)], [(.ofNat 0, .ofNat 0), (.ofNat 0, .ofNat 3072)], [], [(some (.inl (false, 2, .ofNat 0)), [(.ofNat 0, .ofNat 0), (.ofNat 0, .ofNat 3072), (.ofNat 0, .ofNat 1)], [])], 1856910058928070412348882944, 22)
def bN34d_0 : bNq := (21, 34, 12, [some (.inr [31]), some (.inl (false, 0, .ofNat 2)), some (.inl (false, 2, .ofNat 0))], [], [], ([(.ofNat 0, .ofNat 0), (.ofNat 0, .ofNat 3072), (.ofNat 0, .ofNat 40)], []), ([], 1856910058928070412348882944), (.ofNat 40, [(2, .negSucc 0)]))
theorem bK34d : bCk bSp (bCc [bC35d, bC41k]) 20000 [bN34d_0] bC34d = true := by decide +kernel
/-- WishReader piece -/
def bC36e : bCt := (36, [.inr [31], .inl (false, 0, .ofNat 1)], [(.ofNat 0, .ofNat 0), (.ofNat 0, .ofNat 3072)], [], [(some (.inl (false, 2, .ofNat 0)), [(.ofNat 0, .ofNat 0), (.ofNat 0, .ofNat 3072), (.ofNat 0, .ofNat 1)], [])], 1856910058928070412348882944, 24)
theorem bK36e : bCk bSp (bCc [bC34d, bC36d, bC38, bC38a, bC39, bC41l]) 20000 [] bC36e = true := by decide +kernel
/-- WishReader allOf -/
def bC35e : bCt := (35, [.inr [31], .inl (false, 0, .ofNat 1)], [(.ofNat 0, .ofNat 0), (.ofNat 0, .ofNat 3072)], [], [(some (.inl (false, 2, .ofNat 0)), [(.ofNat 0, .ofNat 0), (.ofNat 0, .ofNat 3072), (.ofNat 0, .ofNat 1)], [])], 1856910058928070412348882944, 25)
def bN35e_0 : bNq := (24, 35, 12, [some (.inr [31]), some (.inl (false, 0, .ofNat 1)), some (.inl (false, 2, .ofNat 0))], [], [], ([(.ofNat 0, .ofNat 0), (.ofNat 0, .ofNat 3072), (.ofNat 0, .ofNat 40)], []), ([], 1856910058928070412348882944), (.ofNat 40, [(2, .negSucc 0)]))
theorem bK35e : bCk bSp (bCc [bC36e, bC41j]) 20000 [bN35e_0] bC35e = true := by decide +kernel
/-- WishReader oneOf -/
def bC34e : bCt := (34, [.inr [31], .inl (false, 0, .ofNat 1)], [(.ofNat 0, .ofNat 0), (.ofNat 0, .ofNat 3072)], [], [(some (.inl (false, 2, .ofNat 0)), [(.ofNat 0, .ofNat 0), (.ofNat 0, .ofNat 3072), (.ofNat 0, .ofNat 1)], [])], 1856910058928070412348882944, 26)
def bN34e_0 : bNq := (25, 34, 12, [some (.inr [31]), some (.inl (false, 0, .ofNat 1)), some (.inl (false, 2, .ofNat 0))], [], [], ([(.ofNat 0, .ofNat 0), (.ofNat 0, .ofNat 3072), (.ofNat 0, .ofNat 40)], []), ([], 1856910058928070412348882944), (.ofNat 40, [(2, .negSucc 0)]))
theorem bK34e : bCk bSp (bCc [bC35e, bC41k]) 20000 [bN34e_0] bC34e = true := by decide +kernel
/-- WishReader piece -/
def bC36f : bCt := (36, [.inr [31], .inl (false, 0, .ofNat 0)], [(.ofNat 0, .ofNat 0), (.ofNat 0, .ofNat 3072)], [], [(some (.inl (false, 2, .ofNat 0)), [(.ofNat 0, .ofNat 0), (.ofNat 0, .ofNat 3072), (.ofNat 0, .ofNat 1)], [])], 1856910058928070412348882944, 28)
theorem bK36f : bCk bSp (bCc [bC34e, bC36e, bC38, bC38a, bC39, bC41l]) 20000 [] bC36f = true := by decide +kernel
/-- WishReader allOf -/
def bC35f : bCt := (35, [.inr [31], .inl (false, 0, .ofNat 0)], [(.ofNat 0, .ofNat 0), (.ofNat 0, .ofNat 3072)], [], [(some (.inl (false, 2, .ofNat 0)), [(.ofNat 0, .ofNat 0), (.ofNat 0, .ofNat 3072), (.ofNat 0, .ofNat 1)], [])], 1856910058928070412348882944, 29)
def bN35f_0 : bNq := (28, 35, 12, [some (.inr [31]), some (.inl (false, 0, .ofNat 0)), some (.inl (false, 2, .ofNat 0))], [], [], ([(.ofNat 0, .ofNat 0), (.ofNat 0, .ofNat 3072), (.ofNat 0, .ofNat 40)], []), ([], 1856910058928070412348882944), (.ofNat 40, [(2, .negSucc 0)]))
theorem bK35f : bCk bSp (bCc [bC36f, bC41j]) 20000 [bN35f_0] bC35f = true := by decide +kernel
/-- WishReader oneOf -/
def bC34f : bCt := (34, [.inr [31], .inl (false, 0, .ofNat 0)], [(.ofNat 0, .ofNat 0), (.ofNat 0, .ofNat 3072)], [], [(some (.inl (false, 2, .ofNat 0)), [(.ofNat 0, .ofNat 0), (.ofNat 0, .ofNat 3072), (.ofNat 0, .ofNat 1)], [])], 1856910058928070412348882944, 30)
def bN34f_0 : bNq := (29, 34, 12, [some (.inr [31]), some (.inl (false, 0, .ofNat 0)), some (.inl (false, 2, .ofNat 0))], [], [], ([(.ofNat 0, .ofNat 0), (.ofNat 0, .ofNat 3072), (.ofNat 0, .ofNat 40)], []), ([], 1856910058928070412348882944), (.ofNat 40, [(2, .negSucc 0)]))
theorem bK34f : bCk bSp (bCc [bC35f, bC41k]) 20000 [bN34f_0] bC34f = true := by decide +kernel
end
