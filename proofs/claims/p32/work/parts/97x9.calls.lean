/-! every call keeps what always holds -/
section
set_option maxRecDepth 100000


section
variable {Ln : Nat} {xs : Nat → Int32} {v0 v1 v2 v3 v4 : Int} {a : xA} {b : xB}
theorem vE20 (hLn : Ln ≤ 3072) (hK : kOk (xS a b)) (hP : kP (xS a b)) (hA : xAr a) (q0 : xR v0) (q1 : v1 = 0 ∨ v1 = 1) : vEn Ln xs 20 xW20 [.ref 0, xV v0, xV v1] a b := fun Q hq => xe20 (xL0 hLn) (xC20 hLn) hK hP hA (by decide) q0 (by omega) (fun z a' b' k1 k2 k3 k4 k5 => hq z a' b' k1 k2 k3 k4 ⟨by omega, by omega⟩)
theorem vE141 (hLn : Ln ≤ 3072) (hK : kOk (xS a b)) (hP : kP (xS a b)) (hA : xAr a) (q0 : xR v0) (q1 : v1 = 0 ∨ v1 = 1) : vEn Ln xs 141 xW141 [.ref 87, xV v0, xV v1] a b := fun Q hq => xe141 (xL0 hLn) (xC141 hLn) hK hP hA (by decide) q0 (by omega) (fun z a' b' k1 k2 k3 k4 k5 => hq z a' b' k1 k2 k3 k4 ⟨by omega, by omega⟩)
theorem vE23 (hLn : Ln ≤ 3072) (hK : kOk (xS a b)) (hP : kP (xS a b)) (hA : xAr a) (q0 : xR v0) (q1 : v1 = 0 ∨ v1 = 1) : vEn Ln xs 23 xW23 [.ref 0, xV v0, xV v1] a b := fun Q hq => xe23 (xL0 hLn) (xC23 hLn) hK hP hA (by decide) q0 (by omega) (fun z a' b' k1 k2 k3 k4 k5 => hq z a' b' k1 k2 k3 k4 ⟨by omega, by omega⟩)
theorem vE142 (hLn : Ln ≤ 3072) (hK : kOk (xS a b)) (hP : kP (xS a b)) (hA : xAr a) (q0 : xR v0) (q1 : v1 = 0 ∨ v1 = 1) : vEn Ln xs 142 xW142 [.ref 87, xV v0, xV v1] a b := fun Q hq => xe142 (xL0 hLn) (xC142 hLn) hK hP hA (by decide) q0 (by omega) (fun z a' b' k1 k2 k3 k4 k5 => hq z a' b' k1 k2 k3 k4 ⟨by omega, by omega⟩)
theorem vE25 (hLn : Ln ≤ 3072) (hK : kOk (xS a b)) (hP : kP (xS a b)) (hA : xAr a) (q0 : xR v0) (q1 : v1 = 0 ∨ v1 = 1) (q2 : xR v2) (q3 : xR v3) : vEn Ln xs 25 xW25 [.ref 0, xV v0, xV v1, xV v2, xV v3] a b := fun Q hq => xe25 (xL0 hLn) (xC25 hLn) hK hP hA (by decide) q0 (by omega) q2 q3 (fun z a' b' k1 k2 k3 k4 k5 => hq z a' b' k1 k2 k3 k4 ⟨by omega, by omega⟩)
theorem vE145 (hLn : Ln ≤ 3072) (hK : kOk (xS a b)) (hP : kP (xS a b)) (hA : xAr a) (q0 : xR v0) (q1 : v1 = 0 ∨ v1 = 1) (q2 : xR v2) (q3 : xR v3) : vEn Ln xs 145 xW145 [.ref 87, xV v0, xV v1, xV v2, xV v3] a b := fun Q hq => xe145 (xL0 hLn) (xC145 hLn) hK hP hA (by decide) q0 (by omega) q2 q3 (fun z a' b' k1 k2 k3 k4 k5 => hq z a' b' k1 k2 k3 k4 ⟨by omega, by omega⟩)
theorem vE28 (hLn : Ln ≤ 3072) (hK : kOk (xS a b)) (hP : kP (xS a b)) (hA : xAr a) (q0 : xR v0) (q1 : xR v1) : vEn Ln xs 28 xW28 [.ref 0, xV v0, xV v1] a b := fun Q hq => xe28 (xL0 hLn) (xC28 hLn) hK hP hA (by decide) q0 q1 (fun z a' b' k1 k2 k3 k4 k5 => hq z a' b' k1 k2 k3 k4 ⟨by omega, by omega⟩)
theorem vE150 (hLn : Ln ≤ 3072) (hK : kOk (xS a b)) (hP : kP (xS a b)) (hA : xAr a) (q0 : xR v0) (q1 : xR v1) : vEn Ln xs 150 xW150 [.ref 87, xV v0, xV v1] a b := fun Q hq => xe150 (xL0 hLn) (xC150 hLn) hK hP hA (by decide) q0 q1 (fun z a' b' k1 k2 k3 k4 k5 => hq z a' b' k1 k2 k3 k4 ⟨by omega, by omega⟩)
theorem vE29 (hLn : Ln ≤ 3072) (hK : kOk (xS a b)) (hP : kP (xS a b)) (hA : xAr a) (q0 : xR v0) (q1 : xR v1) (q2 : xR v2) (q3 : xR v3) (q4 : xR v4) : vEn Ln xs 29 xW29 [.ref 0, xV v0, xV v1, xV v2, xV v3, xV v4] a b := fun Q hq => xe29 (xL0 hLn) (xC29 hLn) hK hP hA (by decide) q0 q1 q2 q3 q4 (fun z a' b' k1 k2 k3 k4 k5 => hq z a' b' k1 k2 k3 k4 ⟨by omega, by omega⟩)
theorem vE151 (hLn : Ln ≤ 3072) (hK : kOk (xS a b)) (hP : kP (xS a b)) (hA : xAr a) (q0 : xR v0) (q1 : xR v1) (q2 : xR v2) (q3 : xR v3) (q4 : xR v4) : vEn Ln xs 151 xW151 [.ref 87, xV v0, xV v1, xV v2, xV v3, xV v4] a b := fun Q hq => xe151 (xL0 hLn) (xC151 hLn) hK hP hA (by decide) q0 q1 q2 q3 q4 (fun z a' b' k1 k2 k3 k4 k5 => hq z a' b' k1 k2 k3 k4 ⟨by omega, by omega⟩)
theorem vE31 (hLn : Ln ≤ 3072) (hK : kOk (xS a b)) (hP : kP (xS a b)) (hA : xAr a) (q0 : xR v0) (q1 : xR v1) (q2 : xR v2) : vEn Ln xs 31 xW31 [.ref 0, xV v0, xV v1, xV v2] a b := fun Q hq => xe31 (xL0 hLn) (xC31 hLn) hK hP hA (by decide) q0 q1 q2 (fun z a' b' k1 k2 k3 k4 k5 => hq z a' b' k1 k2 k3 k4 ⟨by omega, by omega⟩)
theorem vE153 (hLn : Ln ≤ 3072) (hK : kOk (xS a b)) (hP : kP (xS a b)) (hA : xAr a) (q0 : xR v0) (q1 : xR v1) (q2 : xR v2) : vEn Ln xs 153 xW153 [.ref 87, xV v0, xV v1, xV v2] a b := fun Q hq => xe153 (xL0 hLn) (xC153 hLn) hK hP hA (by decide) q0 q1 q2 (fun z a' b' k1 k2 k3 k4 k5 => hq z a' b' k1 k2 k3 k4 ⟨by omega, by omega⟩)
theorem vE47 (hLn : Ln ≤ 3072) (hK : kOk (xS a b)) (hP : kP (xS a b)) (hA : xAr a) (q0 : xR v0) : vEn Ln xs 47 xW47 [.ref 0, xV v0] a b := fun Q hq => xe47 (xL0 hLn) (xC47 hLn) hK hP hA (by decide) q0 (fun z a' b' k1 k2 k3 k4 k5 => hq z a' b' k1 k2 k3 k4 ⟨by omega, by omega⟩)
theorem vE166 (hLn : Ln ≤ 3072) (hK : kOk (xS a b)) (hP : kP (xS a b)) (hA : xAr a) (q0 : xR v0) : vEn Ln xs 166 xW166 [.ref 87, xV v0] a b := fun Q hq => xe166 (xL0 hLn) (xC166 hLn) hK hP hA (by decide) q0 (fun z a' b' k1 k2 k3 k4 k5 => hq z a' b' k1 k2 k3 k4 ⟨by omega, by omega⟩)
theorem vE68 (hLn : Ln ≤ 3072) (hK : kOk (xS a b)) (hP : kP (xS a b)) (hA : xAr a) (q0 : xR v0) (q1 : v1 = 0 ∨ v1 = 1) (q2 : xR v2) : vEn Ln xs 68 xW68 [.ref 0, xV v0, xV v1, xV v2] a b := fun Q hq => xe68 (xL0 hLn) (xC68 hLn) hK hP hA (by decide) q0 (by omega) q2 (fun z a' b' k1 k2 k3 k4 k5 => hq z a' b' k1 k2 k3 k4 ⟨by omega, by omega⟩)
theorem vE182 (hLn : Ln ≤ 3072) (hK : kOk (xS a b)) (hP : kP (xS a b)) (hA : xAr a) (q0 : xR v0) (q1 : v1 = 0 ∨ v1 = 1) (q2 : xR v2) : vEn Ln xs 182 xW182 [.ref 87, xV v0, xV v1, xV v2] a b := fun Q hq => xe182 (xL0 hLn) (xC182 hLn) hK hP hA (by decide) q0 (by omega) q2 (fun z a' b' k1 k2 k3 k4 k5 => hq z a' b' k1 k2 k3 k4 ⟨by omega, by omega⟩)
theorem vE70 (hLn : Ln ≤ 3072) (hK : kOk (xS a b)) (hP : kP (xS a b)) (hA : xAr a) (q0 : xR v0) (q1 : xR v1) : vEn Ln xs 70 xW70 [.ref 0, xV v0, xV v1] a b := fun Q hq => xe70 (xL0 hLn) (xC70 hLn) hK hP hA (by decide) q0 q1 (fun z a' b' k1 k2 k3 k4 k5 => hq z a' b' k1 k2 k3 k4 ⟨by omega, by omega⟩)
theorem vE183 (hLn : Ln ≤ 3072) (hK : kOk (xS a b)) (hP : kP (xS a b)) (hA : xAr a) (q0 : xR v0) (q1 : xR v1) : vEn Ln xs 183 xW183 [.ref 87, xV v0, xV v1] a b := fun Q hq => xe183 (xL0 hLn) (xC183 hLn) hK hP hA (by decide) q0 q1 (fun z a' b' k1 k2 k3 k4 k5 => hq z a' b' k1 k2 k3 k4 ⟨by omega, by omega⟩)
theorem vE76 (hLn : Ln ≤ 3072) (hK : kOk (xS a b)) (hP : kP (xS a b)) (hA : xAr a) (q0 : xR v0) (q1 : xR v1) (q2 : xR v2) : vEn Ln xs 76 xW76 [.ref 0, xV v0, xV v1, xV v2] a b := fun Q hq => xe76 (xL0 hLn) (xC76 hLn) hK hP hA (by decide) q0 q1 q2 (fun z a' b' k1 k2 k3 k4 k5 => hq z a' b' k1 k2 k3 k4 ⟨by omega, by omega⟩)
theorem vE189 (hLn : Ln ≤ 3072) (hK : kOk (xS a b)) (hP : kP (xS a b)) (hA : xAr a) (q0 : xR v0) (q1 : xR v1) (q2 : xR v2) : vEn Ln xs 189 xW189 [.ref 87, xV v0, xV v1, xV v2] a b := fun Q hq => xe189 (xL0 hLn) (xC189 hLn) hK hP hA (by decide) q0 q1 q2 (fun z a' b' k1 k2 k3 k4 k5 => hq z a' b' k1 k2 k3 k4 ⟨by omega, by omega⟩)
theorem vE84 (hLn : Ln ≤ 3072) (hK : kOk (xS a b)) (hP : kP (xS a b)) (hA : xAr a) (q0 : xR v0) : vEn Ln xs 84 xW84 [.ref 0, xV v0] a b := fun Q hq => xe84 (xL0 hLn) (xC84 hLn) hK hP hA (by decide) q0 (fun z a' b' k1 k2 k3 k4 k5 => hq z a' b' k1 k2 k3 k4 ⟨by omega, by omega⟩)
theorem vE197 (hLn : Ln ≤ 3072) (hK : kOk (xS a b)) (hP : kP (xS a b)) (hA : xAr a) (q0 : xR v0) : vEn Ln xs 197 xW197 [.ref 87, xV v0] a b := fun Q hq => xe197 (xL0 hLn) (xC197 hLn) hK hP hA (by decide) q0 (fun z a' b' k1 k2 k3 k4 k5 => hq z a' b' k1 k2 k3 k4 ⟨by omega, by omega⟩)
theorem vE87 (hLn : Ln ≤ 3072) (hK : kOk (xS a b)) (hP : kP (xS a b)) (hA : xAr a) (q0 : xR v0) (q1 : xR v1) (q2 : xR v2) : vEn Ln xs 87 xW87 [.ref 0, xV v0, xV v1, xV v2] a b := fun Q hq => xe87 (xL0 hLn) (xC87 hLn) hK hP hA (by decide) q0 q1 q2 (fun z a' b' k1 k2 k3 k4 k5 => hq z a' b' k1 k2 k3 k4 ⟨by omega, by omega⟩)
theorem vE204 (hLn : Ln ≤ 3072) (hK : kOk (xS a b)) (hP : kP (xS a b)) (hA : xAr a) (q0 : xR v0) (q1 : xR v1) (q2 : xR v2) (h114 : 0 ≤ a 88 114 ∧ a 88 114 ≤ 60) : vEn Ln xs 204 xW204 [.ref 87, xV v0, xV v1, xV v2] a b := fun Q hq => xe204 (xL0 hLn) (xC204 hLn) hK hP hA (by decide) q0 q1 q2 h114 (fun z a' b' k1 k2 k3 k4 k5 _ => hq z a' b' k1 k2 k3 k4 ⟨by omega, by omega⟩)
theorem vE100 (hLn : Ln ≤ 3072) (hK : kOk (xS a b)) (hP : kP (xS a b)) (hA : xAr a) (q0 : xR v0) (q1 : xR v1) : vEn Ln xs 100 xW100 [.ref 0, xV v0, xV v1] a b := fun Q hq => xe100 (xL0 hLn) (xC100 hLn) hK hP hA (by decide) q0 q1 (fun z a' b' k1 k2 k3 k4 k5 => hq z a' b' k1 k2 k3 k4 ⟨by omega, by omega⟩)
theorem vE215 (hLn : Ln ≤ 3072) (hK : kOk (xS a b)) (hP : kP (xS a b)) (hA : xAr a) (q0 : xR v0) (q1 : xR v1) (h114 : 0 ≤ a 88 114 ∧ a 88 114 ≤ 60) : vEn Ln xs 215 xW215 [.ref 87, xV v0, xV v1] a b := fun Q hq => xe215 (xL0 hLn) (xC215 hLn) hK hP hA (by decide) q0 q1 h114 (fun z a' b' k1 k2 k3 k4 k5 => hq z a' b' k1 k2 k3 k4 ⟨by omega, by omega⟩)
theorem vE106 (hLn : Ln ≤ 3072) (hK : kOk (xS a b)) (hP : kP (xS a b)) (hA : xAr a) (q0 : xR v0) (q1 : xR v1) : vEn Ln xs 106 xW106 [.ref 0, xV v0, xV v1] a b := fun Q hq => xe106 (xL0 hLn) (xC106 hLn) hK hP hA (by decide) q0 q1 (fun z a' b' k1 k2 k3 k4 k5 => hq z a' b' k1 k2 k3 k4 ⟨by omega, by omega⟩)
theorem vE222 (hLn : Ln ≤ 3072) (hK : kOk (xS a b)) (hP : kP (xS a b)) (hA : xAr a) (q0 : xR v0) (q1 : xR v1) (h114 : 0 ≤ a 88 114 ∧ a 88 114 ≤ 60) : vEn Ln xs 222 xW222 [.ref 87, xV v0, xV v1] a b := fun Q hq => xe222 (xL0 hLn) (xC222 hLn) hK hP hA (by decide) q0 q1 h114 (fun z a' b' k1 k2 k3 k4 k5 => hq z a' b' k1 k2 k3 k4 ⟨by omega, by omega⟩)
theorem vE110 (hLn : Ln ≤ 3072) (hK : kOk (xS a b)) (hP : kP (xS a b)) (hA : xAr a) (q0 : xR v0) : vEn Ln xs 110 xW110 [.ref 0, xV v0] a b := fun Q hq => xe110 (xL0 hLn) (xC110 hLn) hK hP hA (by decide) q0 (fun z a' b' k1 k2 k3 k4 k5 => hq z a' b' k1 k2 k3 k4 ⟨by omega, by omega⟩)
theorem vE223 (hLn : Ln ≤ 3072) (hK : kOk (xS a b)) (hP : kP (xS a b)) (hA : xAr a) (q0 : xR v0) (h114 : 0 ≤ a 88 114 ∧ a 88 114 ≤ 60) : vEn Ln xs 223 xW223 [.ref 87, xV v0] a b := fun Q hq => xe223 (xL0 hLn) (xC223 hLn) hK hP hA (by decide) q0 h114 (fun z a' b' k1 k2 k3 k4 k5 _ => hq z a' b' k1 k2 k3 k4 ⟨by omega, by omega⟩)
theorem vE114 (hLn : Ln ≤ 3072) (hK : kOk (xS a b)) (hP : kP (xS a b)) (hA : xAr a) : vEn Ln xs 114 xW114 [.ref 0] a b := fun Q hq => xe114 (xL0 hLn) (xC114 hLn) hK hP hA (by decide) (fun z a' b' k1 k2 k3 k4 k5 => hq z a' b' k1 k2 k3 k4 ⟨by omega, by omega⟩)
theorem vE230 (hLn : Ln ≤ 3072) (hK : kOk (xS a b)) (hP : kP (xS a b)) (hA : xAr a) (h114 : 0 ≤ a 88 114 ∧ a 88 114 ≤ 60) : vEn Ln xs 230 xW230 [.ref 87] a b := fun Q hq => xe230 (xL0 hLn) (xC230 hLn) hK hP hA (by decide) h114 (fun z a' b' k1 k2 k3 k4 k5 _ => hq z a' b' k1 k2 k3 k4 ⟨by omega, by omega⟩)
theorem vE115 (hLn : Ln ≤ 3072) (hK : kOk (xS a b)) (hP : kP (xS a b)) (hA : xAr a) (q0 : xR v0) (q1 : xR v1) : vEn Ln xs 115 xW115 [.ref 0, xV v0, xV v1] a b := fun Q hq => xe115 (xL0 hLn) (xC115 hLn) hK hP hA (by decide) q0 q1 (fun z a' b' k1 k2 k3 k4 k5 => hq z a' b' k1 k2 k3 k4 ⟨by omega, by omega⟩)
theorem vE231 (hLn : Ln ≤ 3072) (hK : kOk (xS a b)) (hP : kP (xS a b)) (hA : xAr a) (q0 : xR v0) (q1 : xR v1) (h114 : 0 ≤ a 88 114 ∧ a 88 114 ≤ 60) : vEn Ln xs 231 xW231 [.ref 87, xV v0, xV v1] a b := fun Q hq => xe231 (xL0 hLn) (xC231 hLn) hK hP hA (by decide) q0 q1 h114 (fun z a' b' k1 k2 k3 k4 k5 _ => hq z a' b' k1 k2 k3 k4 ⟨by omega, by omega⟩)
theorem vE116 (hLn : Ln ≤ 3072) (hK : kOk (xS a b)) (hP : kP (xS a b)) (hA : xAr a) (q0 : xR v0) : vEn Ln xs 116 xW116 [.ref 0, xV v0] a b := fun Q hq => xe116 (xL0 hLn) (xC116 hLn) hK hP hA (by decide) q0 (fun z a' b' k1 k2 k3 k4 k5 => hq z a' b' k1 k2 k3 k4 ⟨by omega, by omega⟩)
theorem vE232 (hLn : Ln ≤ 3072) (hK : kOk (xS a b)) (hP : kP (xS a b)) (hA : xAr a) (q0 : xR v0) (h114 : 0 ≤ a 88 114 ∧ a 88 114 ≤ 60) : vEn Ln xs 232 xW232 [.ref 87, xV v0] a b := fun Q hq => xe232 (xL0 hLn) (xC232 hLn) hK hP hA (by decide) q0 h114 (fun z a' b' k1 k2 k3 k4 k5 _ => hq z a' b' k1 k2 k3 k4 ⟨by omega, by omega⟩)
theorem vE119 (hLn : Ln ≤ 3072) (hK : kOk (xS a b)) (hP : kP (xS a b)) (hA : xAr a) (q0 : xR v0) : vEn Ln xs 119 xW119 [.ref 0, xV v0] a b := fun Q hq => xe119 (xL0 hLn) (xC119 hLn) hK hP hA (by decide) q0 (fun z a' b' k1 k2 k3 k4 k5 => hq z a' b' k1 k2 k3 k4 ⟨by omega, by omega⟩)
theorem vE236 (hLn : Ln ≤ 3072) (hK : kOk (xS a b)) (hP : kP (xS a b)) (hA : xAr a) (q0 : xR v0) (h114 : 0 ≤ a 88 114 ∧ a 88 114 ≤ 60) : vEn Ln xs 236 xW236 [.ref 87, xV v0] a b := fun Q hq => xe236 (xL0 hLn) (xC236 hLn) hK hP hA (by decide) q0 h114 (fun z a' b' k1 k2 k3 k4 k5 _ => hq z a' b' k1 k2 k3 k4 ⟨by omega, by omega⟩)
theorem vE120 (hLn : Ln ≤ 3072) (hK : kOk (xS a b)) (hP : kP (xS a b)) (hA : xAr a) (q0 : xR v0) (q1 : xR v1) (q2 : xR v2) (q3 : xR v3) : vEn Ln xs 120 xW120 [.ref 0, xV v0, xV v1, xV v2, xV v3] a b := fun Q hq => xe120 (xL0 hLn) (xC120 hLn) hK hP hA (by decide) q0 q1 q2 q3 (fun z a' b' k1 k2 k3 k4 k5 => hq z a' b' k1 k2 k3 k4 ⟨by omega, by omega⟩)
theorem vE237 (hLn : Ln ≤ 3072) (hK : kOk (xS a b)) (hP : kP (xS a b)) (hA : xAr a) (q0 : xR v0) (q1 : xR v1) (q2 : xR v2) (q3 : xR v3) (h114 : 0 ≤ a 88 114 ∧ a 88 114 ≤ 60) : vEn Ln xs 237 xW237 [.ref 87, xV v0, xV v1, xV v2, xV v3] a b := fun Q hq => xe237 (xL0 hLn) (xC237 hLn) hK hP hA (by decide) q0 q1 q2 q3 h114 (fun z a' b' k1 k2 k3 k4 k5 _ => hq z a' b' k1 k2 k3 k4 ⟨by omega, by omega⟩)
theorem vE124 (hLn : Ln ≤ 3072) (hK : kOk (xS a b)) (hP : kP (xS a b)) (hA : xAr a) (q0 : xR v0) : vEn Ln xs 124 xW124 [.ref 0, xV v0] a b := fun Q hq => xe124 (xL0 hLn) (xC124 hLn) hK hP hA (by decide) q0 (fun z a' b' k1 k2 k3 k4 k5 => hq z a' b' k1 k2 k3 k4 ⟨by omega, by omega⟩)
theorem vE239 (hLn : Ln ≤ 3072) (hK : kOk (xS a b)) (hP : kP (xS a b)) (hA : xAr a) (q0 : xR v0) (h114 : 0 ≤ a 88 114 ∧ a 88 114 ≤ 60) : vEn Ln xs 239 xW239 [.ref 87, xV v0] a b := fun Q hq => xe239 (xL0 hLn) (xC239 hLn) hK hP hA (by decide) q0 h114 (fun z a' b' k1 k2 k3 k4 k5 => hq z a' b' k1 k2 k3 k4 ⟨by omega, by omega⟩)
theorem vE127 (hLn : Ln ≤ 3072) (hK : kOk (xS a b)) (hP : kP (xS a b)) (hA : xAr a) (q0 : xR v0) (q1 : xR v1) (q2 : xR v2) : vEn Ln xs 127 xW127 [.ref 0, xV v0, xV v1, xV v2] a b := fun Q hq => xe127 (xL0 hLn) (xC127 hLn) hK hP hA (by decide) q0 q1 q2 (fun z a' b' k1 k2 k3 k4 k5 => hq z a' b' k1 k2 k3 k4 ⟨by omega, by omega⟩)
theorem vE240 (hLn : Ln ≤ 3072) (hK : kOk (xS a b)) (hP : kP (xS a b)) (hA : xAr a) (q0 : xR v0) (q1 : xR v1) (q2 : xR v2) (h114 : 0 ≤ a 88 114 ∧ a 88 114 ≤ 60) : vEn Ln xs 240 xW240 [.ref 87, xV v0, xV v1, xV v2] a b := fun Q hq => xe240 (xL0 hLn) (xC240 hLn) hK hP hA (by decide) q0 q1 q2 h114 (fun z a' b' k1 k2 k3 k4 k5 => hq z a' b' k1 k2 k3 k4 ⟨by omega, by omega⟩)
theorem vE129 (hLn : Ln ≤ 3072) (hK : kOk (xS a b)) (hP : kP (xS a b)) (hA : xAr a) (q0 : xR v0) (q1 : xR v1) : vEn Ln xs 129 xW129 [.ref 0, xV v0, xV v1] a b := fun Q hq => xe129 (xL0 hLn) (xC129 hLn) hK hP hA (by decide) q0 q1 (fun z a' b' k1 k2 k3 k4 k5 => hq z a' b' k1 k2 k3 k4 ⟨by omega, by omega⟩)
theorem vE241 (hLn : Ln ≤ 3072) (hK : kOk (xS a b)) (hP : kP (xS a b)) (hA : xAr a) (q0 : xR v0) (q1 : xR v1) (h114 : 0 ≤ a 88 114 ∧ a 88 114 ≤ 60) : vEn Ln xs 241 xW241 [.ref 87, xV v0, xV v1] a b := fun Q hq => xe241 (xL0 hLn) (xC241 hLn) hK hP hA (by decide) q0 q1 h114 (fun z a' b' k1 k2 k3 k4 k5 => hq z a' b' k1 k2 k3 k4 ⟨by omega, by omega⟩)
theorem vE132 (hLn : Ln ≤ 3072) (hK : kOk (xS a b)) (hP : kP (xS a b)) (hA : xAr a) (q0 : xR v0) : vEn Ln xs 132 xW132 [.ref 0, xV v0] a b := fun Q hq => xe132 (xL0 hLn) (xC132 hLn) hK hP hA (by decide) q0 (fun z a' b' k1 k2 k3 k4 k5 => hq z a' b' k1 k2 k3 k4 ⟨by omega, by omega⟩)
theorem vE243 (hLn : Ln ≤ 3072) (hK : kOk (xS a b)) (hP : kP (xS a b)) (hA : xAr a) (q0 : xR v0) : vEn Ln xs 243 xW243 [.ref 87, xV v0] a b := fun Q hq => xe243 (xL0 hLn) (xC243 hLn) hK hP hA (by decide) q0 (fun z a' b' k1 k2 k3 k4 k5 => hq z a' b' k1 k2 k3 k4 ⟨by omega, by omega⟩)
theorem vE133 (hLn : Ln ≤ 3072) (hK : kOk (xS a b)) (hP : kP (xS a b)) (hA : xAr a) (q0 : xR v0) : vEn Ln xs 133 xW133 [.ref 0, xV v0] a b := fun Q hq => xe133 (xL0 hLn) (xC133 hLn) hK hP hA (by decide) q0 (fun z a' b' k1 k2 k3 k4 k5 => hq z a' b' k1 k2 k3 k4 ⟨by omega, by omega⟩)
theorem vE244 (hLn : Ln ≤ 3072) (hK : kOk (xS a b)) (hP : kP (xS a b)) (hA : xAr a) (q0 : xR v0) : vEn Ln xs 244 xW244 [.ref 87, xV v0] a b := fun Q hq => xe244 (xL0 hLn) (xC244 hLn) hK hP hA (by decide) q0 (fun z a' b' k1 k2 k3 k4 k5 => hq z a' b' k1 k2 k3 k4 ⟨by omega, by omega⟩)
theorem vE134 (hLn : Ln ≤ 3072) (hK : kOk (xS a b)) (hP : kP (xS a b)) (hA : xAr a) (q0 : xR v0) : vEn Ln xs 134 xW134 [.ref 0, xV v0] a b := fun Q hq => xe134 (xL0 hLn) (xC134 hLn) hK hP hA (by decide) q0 (fun z a' b' k1 k2 k3 k4 k5 => hq z a' b' k1 k2 k3 k4 ⟨by omega, by omega⟩)
theorem vE245 (hLn : Ln ≤ 3072) (hK : kOk (xS a b)) (hP : kP (xS a b)) (hA : xAr a) (q0 : xR v0) : vEn Ln xs 245 xW245 [.ref 87, xV v0] a b := fun Q hq => xe245 (xL0 hLn) (xC245 hLn) hK hP hA (by decide) q0 (fun z a' b' k1 k2 k3 k4 k5 => hq z a' b' k1 k2 k3 k4 ⟨by omega, by omega⟩)
end
section
variable {Ln : Nat} {xs : Nat → Int32} {a : xA} {b : xB}
/-- with whether each has begun -/
def zJ (g h : Int) (a : xA) (b : xB) : Prop := kOk (xS a b) ∧ kP (xS a b) ∧ xAr a ∧ (0 ≤ a 88 114 ∧ a 88 114 ≤ 60) ∧ (a 0 12 = g ∧ a 87 4 = h)
theorem zJf {a a' : xA} {b b' : xB} {W : Nat} {g h : Int} (hI : zJ g h a b) (h1 : kOk (xS a' b')) (h2 : kP (xS a' b')) (h3 : xAr a') (hW : kSm W (xS a' b') (xS a b)) (f0 : W.testBit (bRg 88 114) = false) (f1 : W.testBit (bRg 0 12) = false) (f2 : W.testBit (bRg 87 4) = false) : zJ g h a' b' := by
  obtain ⟨i1, i2, i3, i4, i5⟩ := hI
  refine ⟨h1, h2, h3, ?_, ?_⟩
  · rw [(xFr hW h3 i3 (p := 88) (k := 114) (by decide) f0).1]
    exact i4
  · rw [(xFr hW h3 i3 (p := 0) (k := 12) (by decide) f1).1, (xFr hW h3 i3 (p := 87) (k := 4) (by decide) f2).1]
    exact i5
/-- the engine's word on the beginning -/
theorem vE9 (hLn : Ln ≤ 3072) (i1 : kOk (xS a b)) (i2 : kP (xS a b)) (i3 : xAr a) (i4 : 0 ≤ a 88 114 ∧ a 88 114 ≤ 60) (g0 : a 0 12 = 0) (g4 : a 87 4 = 0) : pmCs (pmRo Ln xs) 59 57 [.ref 0] (xS a b) fun _ σ1 => pmCs (pmRo Ln xs) 59 173 [.ref 87] σ1 fun _ σ2 => kOk σ2 ∧ kP σ2 := by
  have key : ∀ a1 b1, zJ 1 0 a1 b1 → pmCs (pmRo Ln xs) 59 173 [.ref 87] (xS a1 b1) fun _ σ2 => kOk σ2 ∧ kP σ2 := by
    intro a1 b1 hJ
    obtain ⟨j1, j2, j3, j4, j5⟩ := id hJ
    refine pmCs_deep (d := 6) (xg173 (w173 j1 j3 (by decide) (fun _ => ?_) (fun e => absurd j5.2 e))) (by decide)
    have hJ2 : zJ 1 1 (xU a1 87 4 1) b1 := ⟨xOk_i j1 (by decide) ⟨by decide, by decide⟩ (by decide +kernel) (xIn1 (lo := 0) (hi := 1) (by decide +kernel) (by decide)), xP_i kP_fr j2 (by decide +kernel) (by decide), xAr_u j3 ⟨by decide, by decide⟩, by rw [xUn (by decide)]; exact j4, ⟨by rw [xUn (by decide)]; exact j5.1, xUa⟩⟩
    refine xe174 (xL0 hLn) (xC174 hLn) hJ2.1 hJ2.2.1 hJ2.2.2.1 (by decide) (fun a2 b2 k1 k2 k3 k4 => ?_)
    have hJ3 : zJ 1 1 a2 b2 := zJf hJ2 k1 k2 k3 k4 (by decide +kernel) (by decide +kernel) (by decide +kernel)
    refine w173_18 k1 k3 (by decide) ?_
    refine xe181d (xL0 hLn) (xC181d hLn) k1 k2 k3 (by decide) (k3 88 114) (fun a3 b3 l1 l2 l3 l4 => ?_)
    have hJ4 : zJ 1 1 a3 b3 := zJf hJ3 l1 l2 l3 l4 (by decide +kernel) (by decide +kernel) (by decide +kernel)
    refine w173_23 l1 l3 (by decide) ?_
    obtain ⟨m1, m2, m3, m4, m5⟩ := hJ4
    exact ⟨m1, m2⟩
  refine pmCs_deep (d := 6) (xg57 (w57 i1 i3 (by decide) (fun e => ?_) (fun e => absurd g0 e))) (by decide)
  · have hJ1 : zJ 1 0 (xU a 0 12 1) b := ⟨xOk_i i1 (by decide) ⟨by decide, by decide⟩ (by decide +kernel) (xIn1 (lo := 0) (hi := 1) (by decide +kernel) (by decide)), xP_i kP_fr i2 (by decide +kernel) (by decide), xAr_u i3 ⟨by decide, by decide⟩, by rw [xUn (by decide)]; exact i4, ⟨xUa, by rw [xUn (by decide)]; exact g4⟩⟩
    refine xe58 (xL0 hLn) (xC58 hLn) hJ1.1 hJ1.2.1 hJ1.2.2.1 (by decide) (fun a1 b1 k1 k2 k3 k4 => ?_)
    have hJ2 : zJ 1 0 a1 b1 := zJf hJ1 k1 k2 k3 k4 (by decide +kernel) (by decide +kernel) (by decide +kernel)
    refine w57_21 k1 k3 (by decide) ?_
    refine xe59 (xL0 hLn) (xC59 hLn) k1 k2 k3 (by decide) (by decide) (fun a2 b2 l1 l2 l3 l4 => ?_)
    have hJ3 : zJ 1 0 a2 b2 := zJf hJ2 l1 l2 l3 l4 (by decide +kernel) (by decide +kernel) (by decide +kernel)
    refine w57_32 l1 l3 (by decide) ?_
    refine pmCs_deep (d := 4) (xg65 (w65 l1 l3 ?_)) (by decide)
    refine xe66 (xL0 hLn) (xC66 hLn) l1 l2 l3 (by decide) (by decide) (by decide) (fun a3 b3 m1 m2 m3 m4 => ?_)
    have hJ4 : zJ 1 0 a3 b3 := zJf hJ3 m1 m2 m3 m4 (by decide +kernel) (by decide +kernel) (by decide +kernel)
    refine w65_8 m1 m3 ?_
    refine w57_43 m1 m3 (by decide) ?_
    exact key a3 b3 hJ4
end
section
variable {Ln : Nat} {xs : Nat → Int32}
theorem vS0 (hLn : Ln ≤ 3072) : ∀ v0 : Int, xR v0 → ∀ v1 : Int, xR v1 → ∀ a b, vInv a b → vStep (pmRo Ln xs) 59 13 [.ref 0, xV v0, xV v1] 137 [.ref 87, xV v0, xV v1] vInv (fun z z' => z = z') a b := by
  intro v0 h0 v1 h1 a b hI
  have hI0 := hI
  obtain ⟨⟨hK, hP⟩, hA, hq, ht, hp | hb⟩ := hI
  · exact vJx (vB13 ⟨⟨hp, ht⟩, hK, hP⟩ h0 h1 (by decide)) (fun a2 b2 h => vInv_p h.1 h.2.1 h.2.2)
  · obtain ⟨dr, wp, co, pr, cnt, W, T, n, a0, R, hg⟩ := hb
    have c6 : a 0 12 = 1 := hg.2.1.2.2.2.2.2
    have s6 : a 87 4 = 1 := hg.2.2.1.2.2.2.2.2
    have hn : a 3 5 = n := hg.2.1.1.1.2.1.2.2.1
    have hn0 : 0 ≤ n ∧ n ≤ 5 := hg.1.1
    have hn2 : a 87 2 = n := hg.2.2.1.1.1.2.1.2.1
    exact vU hI0 0 (fun Q h => pmCs_deep (d := 4) (xg13 (wb13 h0 h1 c6 (Or.inr rfl) (by decide) (fun _ => h) (fun e => absurd e (by decide)) (fun e => absurd e (by decide)) (fun e => absurd e (by decide)) (fun e => absurd e (by decide)) (fun e => absurd e (by decide)))) (by decide)) (fun Q h => pmCs_deep (d := 4) (xg137 (wb137 h0 h1 hA hn2 hn0 s6 (Or.inr rfl) (by decide) (fun _ => h) (fun e => absurd e (by decide)) (fun e => absurd e (by decide)) (fun e => absurd e (by decide)) (fun e => absurd e (by decide)) (fun e => absurd e (by decide)))) (by decide))
theorem vS1 (hLn : Ln ≤ 3072) : ∀ v0 : Int, xR v0 → ∀ v1 : Int, xR v1 → ∀ a b, vInv a b → vStep (pmRo Ln xs) 59 17 [.ref 0, xV v0, xV v1] 139 [.ref 87, xV v0, xV v1] vInv (fun z z' => z = z') a b := by
  intro v0 h0 v1 h1 a b hI
  have hI0 := hI
  obtain ⟨⟨hK, hP⟩, hA, hq, ht, hp | hb⟩ := hI
  · exact vJx (vB17 ⟨⟨hp, ht⟩, hK, hP⟩ h0 h1 (by decide)) (fun a2 b2 h => vInv_p h.1 h.2.1 h.2.2)
  · obtain ⟨dr, wp, co, pr, cnt, W, T, n, a0, R, hg⟩ := hb
    have c6 : a 0 12 = 1 := hg.2.1.2.2.2.2.2
    have s6 : a 87 4 = 1 := hg.2.2.1.2.2.2.2.2
    have hn : a 3 5 = n := hg.2.1.1.1.2.1.2.2.1
    have hn0 : 0 ≤ n ∧ n ≤ 5 := hg.1.1
    have hn2 : a 87 2 = n := hg.2.2.1.1.1.2.1.2.1
    exact vU hI0 0 (fun Q h => pmCs_deep (d := 4) (xg17 (wb17 h0 h1 c6 (Or.inr rfl) (by decide) (fun _ => h) (fun e => absurd e (by decide)) (fun e => absurd e (by decide)) (fun e => absurd e (by decide)))) (by decide)) (fun Q h => pmCs_deep (d := 4) (xg139 (wb139 h0 h1 hA hn2 hn0 s6 (Or.inr rfl) (by decide) (fun _ => h) (fun e => absurd e (by decide)) (fun e => absurd e (by decide)) (fun e => absurd e (by decide)))) (by decide))
theorem vS2 (hLn : Ln ≤ 3072) : ∀ v0 : Int, xR v0 → ∀ v1 : Int, (v1 = 0 ∨ v1 = 1) → ∀ a b, vInv a b → vStep (pmRo Ln xs) 59 20 [.ref 0, xV v0, xV v1] 141 [.ref 87, xV v0, xV v1] vInv (fun z z' => z = z') a b := by
  intro v0 h0 v1 h1 a b hI
  have hI0 := hI
  obtain ⟨⟨hK, hP⟩, hA, hq, ht, hp | hb⟩ := hI
  · exact vJo (vE20 hLn hK hP hA h0 h1) (fun a1 b1 k1 k2 k3 k4 => vE141 hLn k1 k2 k3 h0 h1) (vB20 ⟨hp, ht⟩ h0 (by omega) (by decide)) (fun a1 b1 a2 b2 _ _ _ q1 q2 hi => vInv_p hi q1 q2)
  · obtain ⟨dr, wp, co, pr, cnt, W, T, n, a0, R, hg⟩ := hb
    have c6 : a 0 12 = 1 := hg.2.1.2.2.2.2.2
    have s6 : a 87 4 = 1 := hg.2.2.1.2.2.2.2.2
    have hn : a 3 5 = n := hg.2.1.1.1.2.1.2.2.1
    have hn0 : 0 ≤ n ∧ n ≤ 5 := hg.1.1
    have hn2 : a 87 2 = n := hg.2.2.1.1.1.2.1.2.1
    exact vU hI0 (-1) (fun Q h => pmCs_deep (d := 4) (xg20 (wr20 h0 (by omega) hn hn0 c6 (by decide) (fun _ => h) (fun _ _ => h) (fun _ _ => h))) (by decide)) (fun Q h => pmCs_deep (d := 4) (xg141 (wb141 h0 (by omega) hA hn2 hn0 s6 (Or.inr rfl) (by decide) (fun _ => h) (fun e => absurd e (by decide)) (fun e => absurd e (by decide)) (fun e => absurd e (by decide)) (fun e => absurd e (by decide)))) (by decide))
theorem vS3 (hLn : Ln ≤ 3072) : ∀ v0 : Int, xR v0 → ∀ v1 : Int, (v1 = 0 ∨ v1 = 1) → ∀ a b, vInv a b → vStep (pmRo Ln xs) 59 23 [.ref 0, xV v0, xV v1] 142 [.ref 87, xV v0, xV v1] vInv (fun z z' => z = z') a b := by
  intro v0 h0 v1 h1 a b hI
  have hI0 := hI
  obtain ⟨⟨hK, hP⟩, hA, hq, ht, hp | hb⟩ := hI
  · exact vJo (vE23 hLn hK hP hA h0 h1) (fun a1 b1 k1 k2 k3 k4 => vE142 hLn k1 k2 k3 h0 h1) (vB23 ⟨hp, ht⟩ h0 (by omega) (by decide)) (fun a1 b1 a2 b2 _ _ _ q1 q2 hi => vInv_p hi q1 q2)
  · obtain ⟨dr, wp, co, pr, cnt, W, T, n, a0, R, hg⟩ := hb
    have c6 : a 0 12 = 1 := hg.2.1.2.2.2.2.2
    have s6 : a 87 4 = 1 := hg.2.2.1.2.2.2.2.2
    have hn : a 3 5 = n := hg.2.1.1.1.2.1.2.2.1
    have hn0 : 0 ≤ n ∧ n ≤ 5 := hg.1.1
    have hn2 : a 87 2 = n := hg.2.2.1.1.1.2.1.2.1
    exact vU hI0 (-1) (fun Q h => pmCs_deep (d := 4) (xg23 (wr23 h0 (by omega) hn hn0 c6 (by decide) (fun _ => h) (fun _ _ => h) (fun _ _ _ => h) (fun _ _ _ => h))) (by decide)) (fun Q h => pmCs_deep (d := 4) (xg142 (wb142 h0 (by omega) hA hn2 hn0 s6 (Or.inr rfl) (by decide) (fun _ => h) (fun e => absurd e (by decide)) (fun e => absurd e (by decide)) (fun e => absurd e (by decide)) (fun e => absurd e (by decide)))) (by decide))
theorem vS4 (hLn : Ln ≤ 3072) : ∀ v0 : Int, xR v0 → ∀ v1 : Int, (v1 = 0 ∨ v1 = 1) → ∀ v2 : Int, xR v2 → ∀ v3 : Int, xR v3 → ∀ a b, vInv a b → vStep (pmRo Ln xs) 59 25 [.ref 0, xV v0, xV v1, xV v2, xV v3] 145 [.ref 87, xV v0, xV v1, xV v2, xV v3] vInv (fun z z' => z = z') a b := by
  intro v0 h0 v1 h1 v2 h2 v3 h3 a b hI
  have hI0 := hI
  obtain ⟨⟨hK, hP⟩, hA, hq, ht, hp | hb⟩ := hI
  · exact vJo (vE25 hLn hK hP hA h0 h1 h2 h3) (fun a1 b1 k1 k2 k3 k4 => vE145 hLn k1 k2 k3 h0 h1 h2 h3) (vB25 ⟨hp, ht⟩ h0 h1 h2 h3 (by decide)) (fun a1 b1 a2 b2 _ _ _ q1 q2 hi => vInv_p hi q1 q2)
  · obtain ⟨dr, wp, co, pr, cnt, W, T, n, a0, R, hg⟩ := hb
    have c6 : a 0 12 = 1 := hg.2.1.2.2.2.2.2
    have s6 : a 87 4 = 1 := hg.2.2.1.2.2.2.2.2
    have hn : a 3 5 = n := hg.2.1.1.1.2.1.2.2.1
    have hn0 : 0 ≤ n ∧ n ≤ 5 := hg.1.1
    have hn2 : a 87 2 = n := hg.2.2.1.1.1.2.1.2.1
    exact vU hI0 0 (fun Q h => pmCs_deep (d := 4) (xg25 (wb25 h0 h1 h2 h3 c6 (Or.inr rfl) (by decide) (fun _ => h) (fun e => absurd e (by decide)) (fun e => absurd e (by decide)))) (by decide)) (fun Q h => pmCs_deep (d := 4) (xg145 (wb145 h0 h1 h2 h3 hA hn2 hn0 s6 (Or.inr rfl) (by decide) (fun _ => h) (fun e => absurd e (by decide)) (fun e => absurd e (by decide)) (fun e => absurd e (by decide)) (fun e => absurd e (by decide)) (fun e => absurd e (by decide)) (fun e => absurd e (by decide)) (fun e => absurd e (by decide)) (fun e => absurd e (by decide)) (fun e => absurd e (by decide)) (fun e => absurd e (by decide)) (fun e => absurd e (by decide)) (fun e => absurd e (by decide)) (fun e => absurd e (by decide)) (fun e => absurd e (by decide)))) (by decide))
theorem vS5 (hLn : Ln ≤ 3072) : ∀ v0 : Int, xR v0 → ∀ v1 : Int, xR v1 → ∀ a b, vInv a b → vStep (pmRo Ln xs) 59 28 [.ref 0, xV v0, xV v1] 150 [.ref 87, xV v0, xV v1] vInv (fun z z' => z = z') a b := by
  intro v0 h0 v1 h1 a b hI
  have hI0 := hI
  obtain ⟨⟨hK, hP⟩, hA, hq, ht, hp | hb⟩ := hI
  · exact vJo (vE28 hLn hK hP hA h0 h1) (fun a1 b1 k1 k2 k3 k4 => vE150 hLn k1 k2 k3 h0 h1) (vB28 ⟨hp, ht⟩ h0 h1 (by decide)) (fun a1 b1 a2 b2 _ _ _ q1 q2 hi => vInv_p hi q1 q2)
  · obtain ⟨dr, wp, co, pr, cnt, W, T, n, a0, R, hg⟩ := hb
    have c6 : a 0 12 = 1 := hg.2.1.2.2.2.2.2
    have s6 : a 87 4 = 1 := hg.2.2.1.2.2.2.2.2
    have hn : a 3 5 = n := hg.2.1.1.1.2.1.2.2.1
    have hn0 : 0 ≤ n ∧ n ≤ 5 := hg.1.1
    have hn2 : a 87 2 = n := hg.2.2.1.1.1.2.1.2.1
    exact vU hI0 0 (fun Q h => pmCs_deep (d := 4) (xg28 (wb28 h0 h1 c6 (Or.inr rfl) (by decide) (fun _ => h) (fun e => absurd e (by decide)) (fun e => absurd e (by decide)) (fun e => absurd e (by decide)) (fun e => absurd e (by decide)) (fun e => absurd e (by decide)))) (by decide)) (fun Q h => pmCs_deep (d := 4) (xg150 (wb150 h0 h1 hA hn2 hn0 s6 (Or.inr rfl) (by decide) (fun _ => h) (fun e => absurd e (by decide)) (fun e => absurd e (by decide)) (fun e => absurd e (by decide)))) (by decide))
theorem vS6 (hLn : Ln ≤ 3072) : ∀ v0 : Int, xR v0 → ∀ v1 : Int, xR v1 → ∀ v2 : Int, xR v2 → ∀ v3 : Int, xR v3 → ∀ v4 : Int, xR v4 → ∀ a b, vInv a b → vStep (pmRo Ln xs) 59 29 [.ref 0, xV v0, xV v1, xV v2, xV v3, xV v4] 151 [.ref 87, xV v0, xV v1, xV v2, xV v3, xV v4] vInv (fun z z' => z = z') a b := by
  intro v0 h0 v1 h1 v2 h2 v3 h3 v4 h4 a b hI
  have hI0 := hI
  obtain ⟨⟨hK, hP⟩, hA, hq, ht, hp | hb⟩ := hI
  · refine vJo (vE29 hLn hK hP hA h0 h1 h2 h3 h4) (fun a1 b1 k1 k2 k3 k4 => vE151 hLn k1 k2 k3 h0 h1 h2 h3 h4) (vB29 (I := vPz) hA ht h0 h1 h2 h3 h4 (by decide) (fun a' A' t' fr => ?_)) (fun a1 b1 a2 b2 _ _ _ q1 q2 hi => vInv_p hi q1 q2)
    obtain ⟨T, hT⟩ := hp.2.2.2.2.2.2.2
    exact ⟨vPre_f hp A' (fun q j e1 e2 e3 e4 e5 e6 _ => fr q j e2 (fun e => e1 e.1) (by omega) (by omega)) (vPl_o hp.2.2.2.2.2.2.1 (fun q j hq => fr q j (by omega) (by omega) (by omega) (by omega))) ⟨T, vPg_o hT (fun q j hq => fr q j (by omega) (by omega) (by omega) (by omega))⟩, t'⟩
  · obtain ⟨dr, wp, co, pr, cnt, W, T, n, a0, R, hg⟩ := hb
    exact vJo (vE29 hLn hK hP hA h0 h1 h2 h3 h4) (fun a1 b1 k1 k2 k3 k4 => vE151 hLn k1 k2 k3 h0 h1 h2 h3 h4) (vB29 (I := vBq) hA ht h0 h1 h2 h3 h4 (by decide) (fun a' A' t' fr => ⟨⟨dr, wp, co, pr, cnt, W, T, n, a0, R, uBg_f hg A' (fun q j e1 e2 e3 => fr q j (fun e => e1 (Or.inl e)) (fun e => e2 e.1) (fun e => e1 (Or.inr e)) e3)⟩, t', vQ_o hq (fun q j hq => fr q j (by omega) (by omega) (by omega) (by omega))⟩)) (fun a1 b1 a2 b2 _ _ _ q1 q2 hi => vInv_b hi.1 q1 q2 hi.2.2 hi.2.1)
theorem vS7 (hLn : Ln ≤ 3072) : ∀ v0 : Int, xR v0 → ∀ v1 : Int, xR v1 → ∀ v2 : Int, xR v2 → ∀ a b, vInv a b → vStep (pmRo Ln xs) 59 31 [.ref 0, xV v0, xV v1, xV v2] 153 [.ref 87, xV v0, xV v1, xV v2] vInv (fun z z' => z = z') a b := by
  intro v0 h0 v1 h1 v2 h2 a b hI
  have hI0 := hI
  obtain ⟨⟨hK, hP⟩, hA, hq, ht, hp | hb⟩ := hI
  · exact vJo (vE31 hLn hK hP hA h0 h1 h2) (fun a1 b1 k1 k2 k3 k4 => vE153 hLn k1 k2 k3 h0 h1 h2) (vB31 ⟨hp, ht⟩ (fun j hj => xt2 hK hA hj) (fun i hi => xt11 hK hA hi) (fun i hi => xt12 hK hA hi) (fun i hi => xt96 hK hA hi) h0 h1 h2 (by decide)) (fun a1 b1 a2 b2 _ _ _ q1 q2 hi => vInv_p hi q1 q2)
  · obtain ⟨dr, wp, co, pr, cnt, W, T, n, a0, R, hg⟩ := hb
    have c6 : a 0 12 = 1 := hg.2.1.2.2.2.2.2
    have s6 : a 87 4 = 1 := hg.2.2.1.2.2.2.2.2
    have hn : a 3 5 = n := hg.2.1.1.1.2.1.2.2.1
    have hn0 : 0 ≤ n ∧ n ≤ 5 := hg.1.1
    have hn2 : a 87 2 = n := hg.2.2.1.1.1.2.1.2.1
    refine vU hI0 (-1) (fun Q h => pmCs_deep (d := 3) (xg31 (w31 h0 h1 h2 c6 rfl (by decide) (xt1_1 hK hA) hA (by decide) ?_ ?_ ?_ ?_ ?_ ?_ ?_ ?_ ?_ ?_ ?_ ?_ ?_ ?_)) (by decide)) (fun Q h => pmCs_deep (d := 3) (xg153 (w153 h0 h1 h2 s6 rfl (by decide) (xt87_9 hK hA) hA (by decide) ?_ ?_ ?_ ?_ ?_ ?_ ?_)) (by decide))
    all_goals (
      (try unfold xK)
      intros
      first
        | (exfalso; omega)
        | exact h)
theorem vS8 (hLn : Ln ≤ 3072) : ∀ v0 : Int, xR v0 → ∀ a b, vInv a b → vStep (pmRo Ln xs) 59 47 [.ref 0, xV v0] 166 [.ref 87, xV v0] vInv (fun z z' => z = z') a b := by
  intro v0 h0 a b hI
  have hI0 := hI
  obtain ⟨⟨hK, hP⟩, hA, hq, ht, hp | hb⟩ := hI
  · exact vJo (vE47 hLn hK hP hA h0) (fun a1 b1 k1 k2 k3 k4 => vE166 hLn k1 k2 k3 h0) (vB47 ⟨hp, ht⟩ (fun j hj => xt2 hK hA hj) (xt13_7 hK hA) h0 (by decide)) (fun a1 b1 a2 b2 _ _ _ q1 q2 hi => vInv_p hi q1 q2)
  · obtain ⟨dr, wp, co, pr, cnt, W, T, n, a0, R, hg⟩ := hb
    have c6 : a 0 12 = 1 := hg.2.1.2.2.2.2.2
    have s6 : a 87 4 = 1 := hg.2.2.1.2.2.2.2.2
    have hn : a 3 5 = n := hg.2.1.1.1.2.1.2.2.1
    have hn0 : 0 ≤ n ∧ n ≤ 5 := hg.1.1
    have hn2 : a 87 2 = n := hg.2.2.1.1.1.2.1.2.1
    refine vU hI0 (-1) (fun Q h => pmCs_deep (d := 3) (xg47 (w47 h0 c6 rfl rfl (by decide) (xt13_7 hK hA) (xt1_1 hK hA) ?_ ?_ ?_ ?_ ?_ ?_)) (by decide)) (fun Q h => pmCs_deep (d := 6) (xg166 (w166 h0 rfl rfl s6 (xt87_3 hK hA) (xt87_9 hK hA) (by decide) (by decide) ?_ ?_ ?_ ?_ ?_)) (by decide))
    all_goals (
      intros
      first
        | (exfalso; omega)
        | exact h)
theorem vS9 (hLn : Ln ≤ 3072) : ∀ a b, vInv a b → vStep (pmRo Ln xs) 59 57 [.ref 0] 173 [.ref 87] vInv (fun z z' => z = z') a b := by
  intro  a b hI
  have hI0 := hI
  obtain ⟨⟨hK, hP⟩, hA, hq, ht, hp | hb⟩ := hI
  · have hE := vE9 (xs := xs) hLn hK hP hA (vInv_114 hI0) hp.1.1 hp.1.2
    have hB := vB57 (Ln := Ln) (xs := xs) (d := 59) ⟨hp, ht⟩ (vTb_k hK hA) (by decide) (fun r s => ∃ z a' b', r = some (xV z) ∧ s = xS a' b' ∧ ∀ Q2 : Option Value → pmS → Prop, (∀ a'' b'', vBq a'' b'' → Q2 (some (xV z)) (xS a'' b'')) → pmCs (pmRo Ln xs) 59 173 [.ref 87] (xS a' b') Q2) (fun z a' b' hk => ⟨z, a', b', rfl, rfl, hk⟩)
    refine pmCs_mono (pmCs_deep (pmCs_and hE hB) (by decide)) ?_
    rintro r s ⟨hE2, z, a', b', rfl, rfl, hk⟩
    obtain ⟨g1, g2⟩ := vXV z
    refine ⟨_, a', b', by rw [g2], g1, rfl, ?_⟩
    refine pmCs_mono (pmCs_deep (pmCs_and hE2 (hk (fun r' σ2 => ∃ a'' b'', r' = some (xV z) ∧ σ2 = xS a'' b'' ∧ vBq a'' b'') (fun a'' b'' h => ⟨a'', b'', rfl, rfl, h⟩))) (by decide)) ?_
    rintro r' σ2 ⟨⟨q1, q2⟩, a2, b2, e1, e2, hI⟩
    rw [e2] at q1 q2
    exact ⟨_, a2, b2, by rw [g2]; exact e1, g1, e2, vInv_b hI.1 q1 q2 hI.2.2 hI.2.1, rfl⟩
  · obtain ⟨dr, wp, co, pr, cnt, W, T, n, a0, R, hg⟩ := hb
    have c6 : a 0 12 = 1 := hg.2.1.2.2.2.2.2
    have s6 : a 87 4 = 1 := hg.2.2.1.2.2.2.2.2
    have hn : a 3 5 = n := hg.2.1.1.1.2.1.2.2.1
    have hn0 : 0 ≤ n ∧ n ≤ 5 := hg.1.1
    have hn2 : a 87 2 = n := hg.2.2.1.1.1.2.1.2.1
    exact vU hI0 0 (fun Q h => pmCs_deep (d := 6) (xg57 (wb57 (by omega) (fun e => absurd e (by omega)) (fun _ => h))) (by decide)) (fun Q h => pmCs_deep (d := 6) (xg173 (wb173 (by omega) (fun e => absurd e (by omega)) (fun _ => h))) (by decide))
theorem vS10 (hLn : Ln ≤ 3072) : ∀ v0 : Int, xR v0 → ∀ v1 : Int, (v1 = 0 ∨ v1 = 1) → ∀ v2 : Int, xR v2 → ∀ a b, vInv a b → vStep (pmRo Ln xs) 59 68 [.ref 0, xV v0, xV v1, xV v2] 182 [.ref 87, xV v0, xV v1, xV v2] vInv (fun z z' => z = z') a b := by
  intro v0 h0 v1 h1 v2 h2 a b hI
  have hI0 := hI
  obtain ⟨⟨hK, hP⟩, hA, hq, ht, hp | hb⟩ := hI
  · exact vJo (vE68 hLn hK hP hA h0 h1 h2) (fun a1 b1 k1 k2 k3 k4 => vE182 hLn k1 k2 k3 h0 h1 h2) (vN68 ⟨hp, ht⟩ h0 h1 h2 (by decide)) (fun a1 b1 a2 b2 _ _ _ q1 q2 hi => vInv_p hi q1 q2)
  · obtain ⟨dr, wp, co, pr, cnt, W, T, n, a0, R, hg⟩ := hb
    exact vJo (vE68 hLn hK hP hA h0 h1 h2) (fun a1 b1 k1 k2 k3 k4 => vE182 hLn k1 k2 k3 h0 h1 h2) (uB68 hg h0 h1 h2 (by decide)) (fun a1 b1 a2 b2 g1 g2 g3 q1 q2 hi => vInv_m hI0 g1 g2 g3 (by decide +kernel) (by decide +kernel) (by decide +kernel) (by decide +kernel) q1 q2 ⟨dr, wp, co, pr, cnt, W, T, n, a0, R, hi⟩)
theorem vS11 (hLn : Ln ≤ 3072) : ∀ v0 : Int, xR v0 → ∀ v1 : Int, xR v1 → ∀ a b, vInv a b → vStep (pmRo Ln xs) 59 70 [.ref 0, xV v0, xV v1] 183 [.ref 87, xV v0, xV v1] vInv (fun z z' => z = z') a b := by
  intro v0 h0 v1 h1 a b hI
  have hI0 := hI
  obtain ⟨⟨hK, hP⟩, hA, hq, ht, hp | hb⟩ := hI
  · exact vJo (vE70 hLn hK hP hA h0 h1) (fun a1 b1 k1 k2 k3 k4 => vE183 hLn k1 k2 k3 h0 h1) (vN70 ⟨hp, ht⟩ h0 h1 (by decide)) (fun a1 b1 a2 b2 _ _ _ q1 q2 hi => vInv_p hi q1 q2)
  · obtain ⟨dr, wp, co, pr, cnt, W, T, n, a0, R, hg⟩ := hb
    exact vJo (vE70 hLn hK hP hA h0 h1) (fun a1 b1 k1 k2 k3 k4 => vE183 hLn k1 k2 k3 h0 h1) (uB70 hg h0 h1 (by decide)) (fun a1 b1 a2 b2 g1 g2 g3 q1 q2 hi => vInv_m hI0 g1 g2 g3 (by decide +kernel) (by decide +kernel) (by decide +kernel) (by decide +kernel) q1 q2 ⟨dr, wp, co, pr, cnt, W, T, n, a0, R, hi⟩)
theorem vS12 (hLn : Ln ≤ 3072) : ∀ v0 : Int, xR v0 → ∀ v1 : Int, xR v1 → ∀ v2 : Int, xR v2 → ∀ a b, vInv a b → vStep (pmRo Ln xs) 59 76 [.ref 0, xV v0, xV v1, xV v2] 189 [.ref 87, xV v0, xV v1, xV v2] vInv (fun z z' => z = z') a b := by
  intro v0 h0 v1 h1 v2 h2 a b hI
  have hI0 := hI
  obtain ⟨⟨hK, hP⟩, hA, hq, ht, hp | hb⟩ := hI
  · exact vJo (vE76 hLn hK hP hA h0 h1 h2) (fun a1 b1 k1 k2 k3 k4 => vE189 hLn k1 k2 k3 h0 h1 h2) (vN76 ⟨hp, ht⟩ h0 h1 (by decide)) (fun a1 b1 a2 b2 _ _ _ q1 q2 hi => vInv_p hi q1 q2)
  · obtain ⟨dr, wp, co, pr, cnt, W, T, n, a0, R, hg⟩ := hb
    exact vJo (vE76 hLn hK hP hA h0 h1 h2) (fun a1 b1 k1 k2 k3 k4 => vE189 hLn k1 k2 k3 h0 h1 h2) (uB76 hg h0 h1 h2 (by decide)) (fun a1 b1 a2 b2 g1 g2 g3 q1 q2 hi => vInv_m hI0 g1 g2 g3 (by decide +kernel) (by decide +kernel) (by decide +kernel) (by decide +kernel) q1 q2 ⟨dr, wp, co, pr, cnt, W, T, n, a0, R, hi⟩)
theorem vS13 (hLn : Ln ≤ 3072) : ∀ v0 : Int, xR v0 → ∀ a b, vInv a b → vStep (pmRo Ln xs) 59 84 [.ref 0, xV v0] 197 [.ref 87, xV v0] vInv (fun z z' => z = z') a b := by
  intro v0 h0 a b hI
  have hI0 := hI
  obtain ⟨⟨hK, hP⟩, hA, hq, ht, hp | hb⟩ := hI
  · exact vJo (vE84 hLn hK hP hA h0) (fun a1 b1 k1 k2 k3 k4 => vE197 hLn k1 k2 k3 h0) (vN84 ⟨hp, ht⟩ h0 (by decide)) (fun a1 b1 a2 b2 _ _ _ q1 q2 hi => vInv_p hi q1 q2)
  · obtain ⟨dr, wp, co, pr, cnt, W, T, n, a0, R, hg⟩ := hb
    exact vJo (vE84 hLn hK hP hA h0) (fun a1 b1 k1 k2 k3 k4 => vE197 hLn k1 k2 k3 h0) (uB84 hg h0 (by decide)) (fun a1 b1 a2 b2 g1 g2 g3 q1 q2 hi => vInv_m hI0 g1 g2 g3 (by decide +kernel) (by decide +kernel) (by decide +kernel) (by decide +kernel) q1 q2 ⟨dr, wp, co, pr, cnt, W, T, n, a0, R, hi⟩)
theorem vS14 (hLn : Ln ≤ 3072) : ∀ v0 : Int, xR v0 → ∀ v1 : Int, xR v1 → ∀ v2 : Int, xR v2 → ∀ a b, vInv a b → vStep (pmRo Ln xs) 59 87 [.ref 0, xV v0, xV v1, xV v2] 204 [.ref 87, xV v0, xV v1, xV v2] vInv (fun z z' => z = z') a b := by
  intro v0 h0 v1 h1 v2 h2 a b hI
  have hI0 := hI
  obtain ⟨⟨hK, hP⟩, hA, hq, ht, hp | hb⟩ := hI
  · exact vJo (vE87 hLn hK hP hA h0 h1 h2) (fun a1 b1 k1 k2 k3 k4 => vE204 hLn k1 k2 k3 h0 h1 h2 (by rw [(xFr k4 k3 hA (p := 88) (k := 114) (by decide) (by decide +kernel)).1]; exact vInv_114 hI0)) (vN87 ⟨hp, ht⟩ h0 h1 h2 (by decide)) (fun a1 b1 a2 b2 _ _ _ q1 q2 hi => vInv_p hi q1 q2)
  · obtain ⟨dr, wp, co, pr, cnt, W, T, n, a0, R, hg⟩ := hb
    exact vJo (vE87 hLn hK hP hA h0 h1 h2) (fun a1 b1 k1 k2 k3 k4 => vE204 hLn k1 k2 k3 h0 h1 h2 (by rw [(xFr k4 k3 hA (p := 88) (k := 114) (by decide) (by decide +kernel)).1]; exact vInv_114 hI0)) (uB87 hg h0 h1 h2 (by decide)) (fun a1 b1 a2 b2 g1 g2 g3 q1 q2 hi => vInv_m hI0 g1 g2 g3 (by decide +kernel) (by decide +kernel) (by decide +kernel) (by decide +kernel) q1 q2 ⟨dr, wp, co, pr, cnt, W, T, n, a0, R, hi⟩)
theorem vS15 (hLn : Ln ≤ 3072) : ∀ v0 : Int, xR v0 → ∀ v1 : Int, xR v1 → ∀ a b, vInv a b → vStep (pmRo Ln xs) 59 100 [.ref 0, xV v0, xV v1] 215 [.ref 87, xV v0, xV v1] vInv (fun z z' => z = z') a b := by
  intro v0 h0 v1 h1 a b hI
  have hI0 := hI
  obtain ⟨⟨hK, hP⟩, hA, hq, ht, hp | hb⟩ := hI
  · exact vJo (vE100 hLn hK hP hA h0 h1) (fun a1 b1 k1 k2 k3 k4 => vE215 hLn k1 k2 k3 h0 h1 (by rw [(xFr k4 k3 hA (p := 88) (k := 114) (by decide) (by decide +kernel)).1]; exact vInv_114 hI0)) (vN100 ⟨hp, ht⟩ h0 h1 (by decide)) (fun a1 b1 a2 b2 _ _ _ q1 q2 hi => vInv_p hi q1 q2)
  · obtain ⟨dr, wp, co, pr, cnt, W, T, n, a0, R, hg⟩ := hb
    exact vJo (vE100 hLn hK hP hA h0 h1) (fun a1 b1 k1 k2 k3 k4 => vE215 hLn k1 k2 k3 h0 h1 (by rw [(xFr k4 k3 hA (p := 88) (k := 114) (by decide) (by decide +kernel)).1]; exact vInv_114 hI0)) (uB100 hg h0 h1 (by decide)) (fun a1 b1 a2 b2 g1 g2 g3 q1 q2 hi => vInv_m hI0 g1 g2 g3 (by decide +kernel) (by decide +kernel) (by decide +kernel) (by decide +kernel) q1 q2 ⟨dr, wp, co, pr, cnt, W, T, n, a0, R, hi⟩)
theorem vS16 (hLn : Ln ≤ 3072) : ∀ v0 : Int, xR v0 → ∀ v1 : Int, xR v1 → ∀ a b, vInv a b → vStep (pmRo Ln xs) 59 106 [.ref 0, xV v0, xV v1] 222 [.ref 87, xV v0, xV v1] vInv (fun z z' => z = z') a b := by
  intro v0 h0 v1 h1 a b hI
  have hI0 := hI
  obtain ⟨⟨hK, hP⟩, hA, hq, ht, hp | hb⟩ := hI
  · exact vJo (vE106 hLn hK hP hA h0 h1) (fun a1 b1 k1 k2 k3 k4 => vE222 hLn k1 k2 k3 h0 h1 (by rw [(xFr k4 k3 hA (p := 88) (k := 114) (by decide) (by decide +kernel)).1]; exact vInv_114 hI0)) (vN106 ⟨hp, ht⟩ h0 h1 (by decide)) (fun a1 b1 a2 b2 _ _ _ q1 q2 hi => vInv_p hi q1 q2)
  · obtain ⟨dr, wp, co, pr, cnt, W, T, n, a0, R, hg⟩ := hb
    exact vJo (vE106 hLn hK hP hA h0 h1) (fun a1 b1 k1 k2 k3 k4 => vE222 hLn k1 k2 k3 h0 h1 (by rw [(xFr k4 k3 hA (p := 88) (k := 114) (by decide) (by decide +kernel)).1]; exact vInv_114 hI0)) (uB106 hg h0 h1 (by decide)) (fun a1 b1 a2 b2 g1 g2 g3 q1 q2 hi => vInv_m hI0 g1 g2 g3 (by decide +kernel) (by decide +kernel) (by decide +kernel) (by decide +kernel) q1 q2 ⟨dr, wp, co, pr, cnt, W, T, n, a0, R, hi⟩)
theorem vS17 (hLn : Ln ≤ 3072) : ∀ v0 : Int, xR v0 → ∀ a b, vInv a b → vStep (pmRo Ln xs) 59 107 [.ref 0, xV v0] 201 [.ref 87, xV v0] vInv (fun _ _ => True) a b := by
  intro v0 h0 a b hI
  obtain ⟨⟨hK, hP⟩, hA, _⟩ := id hI
  refine xe107 (xL0 hLn) (xC107 hLn) hK hP hA (by decide) h0 (fun z1 a1 b1 k1 k2 k3 k4 k5 => ⟨z1, a, b, rfl, ⟨by omega, by omega⟩, vSm k1 k4, ?_⟩)
  exact xe201 (xL0 hLn) (xC201 hLn) hK hP hA (by decide) h0 (fun z2 a2 b2 l1 l2 l3 l4 l5 => ⟨z2, a, b, rfl, ⟨by omega, by omega⟩, vSm l1 l4, hI, trivial⟩)
theorem vS18 (hLn : Ln ≤ 3072) : ∀ v0 : Int, xR v0 → ∀ a b, vInv a b → vStep (pmRo Ln xs) 59 109 [.ref 0, xV v0] 203 [.ref 87, xV v0] vInv (fun _ _ => True) a b := by
  intro v0 h0 a b hI
  obtain ⟨⟨hK, hP⟩, hA, _⟩ := id hI
  refine xe109 (xL0 hLn) (xC109 hLn) hK hP hA (by decide) h0 (fun z1 a1 b1 k1 k2 k3 k4 k5 => ⟨z1, a, b, rfl, ⟨by omega, by omega⟩, vSm k1 k4, ?_⟩)
  exact xe203 (xL0 hLn) (xC203 hLn) hK hP hA (by decide) h0 (fun z2 a2 b2 l1 l2 l3 l4 l5 => ⟨z2, a, b, rfl, ⟨by omega, by omega⟩, vSm l1 l4, hI, trivial⟩)
theorem vS19 (hLn : Ln ≤ 3072) : ∀ v0 : Int, xR v0 → ∀ a b, vInv a b → vStep (pmRo Ln xs) 59 110 [.ref 0, xV v0] 223 [.ref 87, xV v0] vInv (fun _ _ => True) a b := by
  intro v0 h0 a b hI
  have hI0 := hI
  obtain ⟨⟨hK, hP⟩, hA, hq, ht, hp | hb⟩ := hI
  · exact vMono (vJo (vE110 hLn hK hP hA h0) (fun a1 b1 k1 k2 k3 k4 => vE223 hLn k1 k2 k3 h0 (by rw [(xFr k4 k3 hA (p := 88) (k := 114) (by decide) (by decide +kernel)).1]; exact vInv_114 hI0)) (vN110 ⟨hp, ht⟩ h0 (by decide)) (fun a1 b1 a2 b2 _ _ _ q1 q2 hi => vInv_p hi q1 q2)) (fun _ _ _ => trivial)
  · obtain ⟨dr, wp, co, pr, cnt, W, T, n, a0, R, hg⟩ := hb
    exact vJf (vE110 hLn hK hP hA h0) (fun a1 b1 k1 k2 k3 k4 => vE223 hLn k1 k2 k3 h0 (by rw [(xFr k4 k3 hA (p := 88) (k := 114) (by decide) (by decide +kernel)).1]; exact vInv_114 hI0)) (uB110 hg h0 (by decide)) (fun a1 b1 a2 b2 g1 g2 g3 q1 q2 hi => vInv_m hI0 g1 g2 g3 (by decide +kernel) (by decide +kernel) (by decide +kernel) (by decide +kernel) q1 q2 ⟨dr, wp, co, pr, cnt, W, T, n, a0, R, hi⟩)
theorem vS20 (hLn : Ln ≤ 3072) : ∀ a b, vInv a b → vStep (pmRo Ln xs) 59 114 [.ref 0] 230 [.ref 87] vInv (fun _ _ => True) a b := by
  intro  a b hI
  have hI0 := hI
  obtain ⟨⟨hK, hP⟩, hA, hq, ht, hp | hb⟩ := hI
  · exact vMono (vJo (vE114 hLn hK hP hA) (fun a1 b1 k1 k2 k3 k4 => vE230 hLn k1 k2 k3 (by rw [(xFr k4 k3 hA (p := 88) (k := 114) (by decide) (by decide +kernel)).1]; exact vInv_114 hI0)) (vN114 ⟨hp, ht⟩ (by decide)) (fun a1 b1 a2 b2 _ _ _ q1 q2 hi => vInv_p hi q1 q2)) (fun _ _ _ => trivial)
  · obtain ⟨dr, wp, co, pr, cnt, W, T, n, a0, R, hg⟩ := hb
    exact vJf (vE114 hLn hK hP hA) (fun a1 b1 k1 k2 k3 k4 => vE230 hLn k1 k2 k3 (by rw [(xFr k4 k3 hA (p := 88) (k := 114) (by decide) (by decide +kernel)).1]; exact vInv_114 hI0)) (uB114 hg (by decide)) (fun a1 b1 a2 b2 g1 g2 g3 q1 q2 hi => vInv_m hI0 g1 g2 g3 (by decide +kernel) (by decide +kernel) (by decide +kernel) (by decide +kernel) q1 q2 ⟨dr, wp, co, pr, cnt, W, T, n, a0, R, hi⟩)
theorem vS21 (hLn : Ln ≤ 3072) : ∀ v0 : Int, xR v0 → ∀ v1 : Int, xR v1 → ∀ a b, vInv a b → vStep (pmRo Ln xs) 59 115 [.ref 0, xV v0, xV v1] 231 [.ref 87, xV v0, xV v1] vInv (fun _ _ => True) a b := by
  intro v0 h0 v1 h1 a b hI
  have hI0 := hI
  obtain ⟨⟨hK, hP⟩, hA, hq, ht, hp | hb⟩ := hI
  · exact vMono (vJo (vE115 hLn hK hP hA h0 h1) (fun a1 b1 k1 k2 k3 k4 => vE231 hLn k1 k2 k3 h0 h1 (by rw [(xFr k4 k3 hA (p := 88) (k := 114) (by decide) (by decide +kernel)).1]; exact vInv_114 hI0)) (vN115 ⟨hp, ht⟩ h0 h1 (by decide)) (fun a1 b1 a2 b2 _ _ _ q1 q2 hi => vInv_p hi q1 q2)) (fun _ _ _ => trivial)
  · obtain ⟨dr, wp, co, pr, cnt, W, T, n, a0, R, hg⟩ := hb
    exact vJf (vE115 hLn hK hP hA h0 h1) (fun a1 b1 k1 k2 k3 k4 => vE231 hLn k1 k2 k3 h0 h1 (by rw [(xFr k4 k3 hA (p := 88) (k := 114) (by decide) (by decide +kernel)).1]; exact vInv_114 hI0)) (uB115 hg h0 h1 (by decide)) (fun a1 b1 a2 b2 g1 g2 g3 q1 q2 hi => vInv_m hI0 g1 g2 g3 (by decide +kernel) (by decide +kernel) (by decide +kernel) (by decide +kernel) q1 q2 ⟨dr, wp, co, pr, cnt, W, T, n, a0, R, hi⟩)
theorem vS22 (hLn : Ln ≤ 3072) : ∀ v0 : Int, xR v0 → ∀ a b, vInv a b → vStep (pmRo Ln xs) 59 116 [.ref 0, xV v0] 232 [.ref 87, xV v0] vInv (fun z z' => z = z') a b := by
  intro v0 h0 a b hI
  have hI0 := hI
  obtain ⟨⟨hK, hP⟩, hA, hq, ht, hp | hb⟩ := hI
  · exact vJo (vE116 hLn hK hP hA h0) (fun a1 b1 k1 k2 k3 k4 => vE232 hLn k1 k2 k3 h0 (by rw [(xFr k4 k3 hA (p := 88) (k := 114) (by decide) (by decide +kernel)).1]; exact vInv_114 hI0)) (vN116 ⟨hp, ht⟩ h0 (by decide)) (fun a1 b1 a2 b2 _ _ _ q1 q2 hi => vInv_p hi q1 q2)
  · obtain ⟨dr, wp, co, pr, cnt, W, T, n, a0, R, hg⟩ := hb
    exact vJo (vE116 hLn hK hP hA h0) (fun a1 b1 k1 k2 k3 k4 => vE232 hLn k1 k2 k3 h0 (by rw [(xFr k4 k3 hA (p := 88) (k := 114) (by decide) (by decide +kernel)).1]; exact vInv_114 hI0)) (uB116 hg h0 (by decide)) (fun a1 b1 a2 b2 g1 g2 g3 q1 q2 hi => vInv_m hI0 g1 g2 g3 (by decide +kernel) (by decide +kernel) (by decide +kernel) (by decide +kernel) q1 q2 ⟨dr, wp, co, pr, cnt, W, T, n, a0, R, hi⟩)
theorem vS23 (hLn : Ln ≤ 3072) : ∀ v0 : Int, xR v0 → ∀ a b, vInv a b → vStep (pmRo Ln xs) 59 119 [.ref 0, xV v0] 236 [.ref 87, xV v0] vInv (fun z z' => z = z') a b := by
  intro v0 h0 a b hI
  have hI0 := hI
  obtain ⟨⟨hK, hP⟩, hA, hq, ht, hp | hb⟩ := hI
  · exact vJo (vE119 hLn hK hP hA h0) (fun a1 b1 k1 k2 k3 k4 => vE236 hLn k1 k2 k3 h0 (by rw [(xFr k4 k3 hA (p := 88) (k := 114) (by decide) (by decide +kernel)).1]; exact vInv_114 hI0)) (vN119 ⟨hp, ht⟩ h0 (by decide)) (fun a1 b1 a2 b2 _ _ _ q1 q2 hi => vInv_p hi q1 q2)
  · obtain ⟨dr, wp, co, pr, cnt, W, T, n, a0, R, hg⟩ := hb
    exact vJo (vE119 hLn hK hP hA h0) (fun a1 b1 k1 k2 k3 k4 => vE236 hLn k1 k2 k3 h0 (by rw [(xFr k4 k3 hA (p := 88) (k := 114) (by decide) (by decide +kernel)).1]; exact vInv_114 hI0)) (uB119 hg h0 (by decide)) (fun a1 b1 a2 b2 g1 g2 g3 q1 q2 hi => vInv_m hI0 g1 g2 g3 (by decide +kernel) (by decide +kernel) (by decide +kernel) (by decide +kernel) q1 q2 ⟨dr, wp, co, pr, cnt, W, T, n, a0, R, hi⟩)
theorem vS24 (hLn : Ln ≤ 3072) : ∀ v0 : Int, xR v0 → ∀ v1 : Int, xR v1 → ∀ v2 : Int, xR v2 → ∀ v3 : Int, xR v3 → ∀ a b, vInv a b → vStep (pmRo Ln xs) 59 120 [.ref 0, xV v0, xV v1, xV v2, xV v3] 237 [.ref 87, xV v0, xV v1, xV v2, xV v3] vInv (fun _ _ => True) a b := by
  intro v0 h0 v1 h1 v2 h2 v3 h3 a b hI
  have hI0 := hI
  obtain ⟨⟨hK, hP⟩, hA, hq, ht, hp | hb⟩ := hI
  · exact vMono (vJo (vE120 hLn hK hP hA h0 h1 h2 h3) (fun a1 b1 k1 k2 k3 k4 => vE237 hLn k1 k2 k3 h0 h1 h2 h3 (by rw [(xFr k4 k3 hA (p := 88) (k := 114) (by decide) (by decide +kernel)).1]; exact vInv_114 hI0)) (vN120 ⟨hp, ht⟩ h0 h1 h2 h3 (by decide)) (fun a1 b1 a2 b2 _ _ _ q1 q2 hi => vInv_p hi q1 q2)) (fun _ _ _ => trivial)
  · obtain ⟨dr, wp, co, pr, cnt, W, T, n, a0, R, hg⟩ := hb
    exact vJf (vE120 hLn hK hP hA h0 h1 h2 h3) (fun a1 b1 k1 k2 k3 k4 => vE237 hLn k1 k2 k3 h0 h1 h2 h3 (by rw [(xFr k4 k3 hA (p := 88) (k := 114) (by decide) (by decide +kernel)).1]; exact vInv_114 hI0)) (uB120 hg h0 h1 h2 h3 (by decide)) (fun a1 b1 a2 b2 g1 g2 g3 q1 q2 hi => vInv_m hI0 g1 g2 g3 (by decide +kernel) (by decide +kernel) (by decide +kernel) (by decide +kernel) q1 q2 ⟨dr, wp, co, pr, cnt, W, T, n, a0, R, hi⟩)
theorem vS25 (hLn : Ln ≤ 3072) : ∀ v0 : Int, xR v0 → ∀ a b, vInv a b → vStep (pmRo Ln xs) 59 124 [.ref 0, xV v0] 239 [.ref 87, xV v0] vInv (fun z z' => z = z') a b := by
  intro v0 h0 a b hI
  have hI0 := hI
  obtain ⟨⟨hK, hP⟩, hA, hq, ht, hp | hb⟩ := hI
  · exact vJo (vE124 hLn hK hP hA h0) (fun a1 b1 k1 k2 k3 k4 => vE239 hLn k1 k2 k3 h0 (by rw [(xFr k4 k3 hA (p := 88) (k := 114) (by decide) (by decide +kernel)).1]; exact vInv_114 hI0)) (vN124 ⟨hp, ht⟩ h0 (by decide)) (fun a1 b1 a2 b2 _ _ _ q1 q2 hi => vInv_p hi q1 q2)
  · obtain ⟨dr, wp, co, pr, cnt, W, T, n, a0, R, hg⟩ := hb
    exact vJo (vE124 hLn hK hP hA h0) (fun a1 b1 k1 k2 k3 k4 => vE239 hLn k1 k2 k3 h0 (by rw [(xFr k4 k3 hA (p := 88) (k := 114) (by decide) (by decide +kernel)).1]; exact vInv_114 hI0)) (uB124 hg h0 (by decide)) (fun a1 b1 a2 b2 g1 g2 g3 q1 q2 hi => vInv_m hI0 g1 g2 g3 (by decide +kernel) (by decide +kernel) (by decide +kernel) (by decide +kernel) q1 q2 ⟨dr, wp, co, pr, cnt, W, T, n, a0, R, hi⟩)
theorem vS26 (hLn : Ln ≤ 3072) : ∀ v0 : Int, xR v0 → ∀ v1 : Int, xR v1 → ∀ v2 : Int, xR v2 → ∀ a b, vInv a b → vStep (pmRo Ln xs) 59 127 [.ref 0, xV v0, xV v1, xV v2] 240 [.ref 87, xV v0, xV v1, xV v2] vInv (fun z z' => z = z') a b := by
  intro v0 h0 v1 h1 v2 h2 a b hI
  have hI0 := hI
  obtain ⟨⟨hK, hP⟩, hA, hq, ht, hp | hb⟩ := hI
  · exact vJo (vE127 hLn hK hP hA h0 h1 h2) (fun a1 b1 k1 k2 k3 k4 => vE240 hLn k1 k2 k3 h0 h1 h2 (by rw [(xFr k4 k3 hA (p := 88) (k := 114) (by decide) (by decide +kernel)).1]; exact vInv_114 hI0)) (vN127 ⟨hp, ht⟩ h0 h1 h2 (by decide)) (fun a1 b1 a2 b2 _ _ _ q1 q2 hi => vInv_p hi q1 q2)
  · obtain ⟨dr, wp, co, pr, cnt, W, T, n, a0, R, hg⟩ := hb
    exact vJo (vE127 hLn hK hP hA h0 h1 h2) (fun a1 b1 k1 k2 k3 k4 => vE240 hLn k1 k2 k3 h0 h1 h2 (by rw [(xFr k4 k3 hA (p := 88) (k := 114) (by decide) (by decide +kernel)).1]; exact vInv_114 hI0)) (uB127 hg h0 h1 h2 (by decide)) (fun a1 b1 a2 b2 g1 g2 g3 q1 q2 hi => vInv_m hI0 g1 g2 g3 (by decide +kernel) (by decide +kernel) (by decide +kernel) (by decide +kernel) q1 q2 ⟨dr, wp, co, pr, cnt, W, T, n, a0, R, hi⟩)
theorem vS27 (hLn : Ln ≤ 3072) : ∀ v0 : Int, xR v0 → ∀ v1 : Int, xR v1 → ∀ a b, vInv a b → vStep (pmRo Ln xs) 59 129 [.ref 0, xV v0, xV v1] 241 [.ref 87, xV v0, xV v1] vInv (fun z z' => z = z') a b := by
  intro v0 h0 v1 h1 a b hI
  have hI0 := hI
  obtain ⟨⟨hK, hP⟩, hA, hq, ht, hp | hb⟩ := hI
  · exact vJo (vE129 hLn hK hP hA h0 h1) (fun a1 b1 k1 k2 k3 k4 => vE241 hLn k1 k2 k3 h0 h1 (by rw [(xFr k4 k3 hA (p := 88) (k := 114) (by decide) (by decide +kernel)).1]; exact vInv_114 hI0)) (vN129 ⟨hp, ht⟩ h0 h1 (by decide)) (fun a1 b1 a2 b2 _ _ _ q1 q2 hi => vInv_p hi q1 q2)
  · obtain ⟨dr, wp, co, pr, cnt, W, T, n, a0, R, hg⟩ := hb
    refine vJo (vE129 hLn hK hP hA h0 h1) (fun a1 b1 k1 k2 k3 k4 => vE241 hLn k1 k2 k3 h0 h1 (by rw [(xFr k4 k3 hA (p := 88) (k := 114) (by decide) (by decide +kernel)).1]; exact vInv_114 hI0)) (uB129 (l := a 1 1) (tp := a 2) hg rfl ht.1.symm ht.2.1 (fun _ _ _ => rfl) (fun j j0 j1 => (ht.2.2 j j0 j1).symm) h0 h1 (by decide)) (fun a1 b1 a2 b2 g1 g2 g3 q1 q2 hi => ?_)
    obtain ⟨i1, i2, i3, i4⟩ := hi
    have hb2 : vBg a2 b2 := ⟨dr, wp, co, pr, cnt, W, T, n, a0, R, i1⟩
    refine vInv_b hb2 q1 q2 (vFq g3 (vBg_A hb2) g1 (by decide +kernel) (vFq g2 g1 hA (by decide +kernel) hq)) ?_
    unfold vT
    rw [i3, i4]
    rcases i2 with ⟨e1, e2⟩ | ⟨e1, e2⟩
    · rw [e1, e2]
      exact ⟨rfl, ht.2.1, fun j j0 j1 => ht.2.2 j j0 j1⟩
    · rw [e1, e2]
      exact ⟨rfl, by decide, fun j j0 j1 => absurd j1 (by omega)⟩
theorem vS28 (hLn : Ln ≤ 3072) : ∀ v0 : Int, xR v0 → ∀ a b, vInv a b → vStep (pmRo Ln xs) 59 132 [.ref 0, xV v0] 243 [.ref 87, xV v0] vInv (fun z z' => z = z') a b := by
  intro v0 h0 a b hI
  have hI0 := hI
  obtain ⟨⟨hK, hP⟩, hA, hq, ht, hp | hb⟩ := hI
  · exact vJo (vE132 hLn hK hP hA h0) (fun a1 b1 k1 k2 k3 k4 => vE243 hLn k1 k2 k3 h0) (vN132 ⟨hp, ht⟩ h0 (by decide)) (fun a1 b1 a2 b2 _ _ _ q1 q2 hi => vInv_p hi q1 q2)
  · obtain ⟨dr, wp, co, pr, cnt, W, T, n, a0, R, hg⟩ := hb
    exact vJo (vE132 hLn hK hP hA h0) (fun a1 b1 k1 k2 k3 k4 => vE243 hLn k1 k2 k3 h0) (uB132 hg h0 (by decide)) (fun a1 b1 a2 b2 g1 g2 g3 q1 q2 hi => vInv_m hI0 g1 g2 g3 (by decide +kernel) (by decide +kernel) (by decide +kernel) (by decide +kernel) q1 q2 ⟨dr, wp, co, pr, cnt, W, T, n, a0, R, hi⟩)
theorem vS29 (hLn : Ln ≤ 3072) : ∀ v0 : Int, xR v0 → ∀ a b, vInv a b → vStep (pmRo Ln xs) 59 133 [.ref 0, xV v0] 244 [.ref 87, xV v0] vInv (fun z z' => z = z') a b := by
  intro v0 h0 a b hI
  have hI0 := hI
  obtain ⟨⟨hK, hP⟩, hA, hq, ht, hp | hb⟩ := hI
  · exact vJo (vE133 hLn hK hP hA h0) (fun a1 b1 k1 k2 k3 k4 => vE244 hLn k1 k2 k3 h0) (vN133 ⟨hp, ht⟩ h0 (by decide)) (fun a1 b1 a2 b2 _ _ _ q1 q2 hi => vInv_p hi q1 q2)
  · obtain ⟨dr, wp, co, pr, cnt, W, T, n, a0, R, hg⟩ := hb
    exact vJo (vE133 hLn hK hP hA h0) (fun a1 b1 k1 k2 k3 k4 => vE244 hLn k1 k2 k3 h0) (uB133 hg h0 (by decide)) (fun a1 b1 a2 b2 g1 g2 g3 q1 q2 hi => vInv_m hI0 g1 g2 g3 (by decide +kernel) (by decide +kernel) (by decide +kernel) (by decide +kernel) q1 q2 ⟨dr, wp, co, pr, cnt, W, T, n, a0, R, hi⟩)
theorem vS30 (hLn : Ln ≤ 3072) : ∀ v0 : Int, xR v0 → ∀ a b, vInv a b → vStep (pmRo Ln xs) 59 134 [.ref 0, xV v0] 245 [.ref 87, xV v0] vInv (fun z z' => z = z') a b := by
  intro v0 h0 a b hI
  have hI0 := hI
  obtain ⟨⟨hK, hP⟩, hA, hq, ht, hp | hb⟩ := hI
  · exact vJo (vE134 hLn hK hP hA h0) (fun a1 b1 k1 k2 k3 k4 => vE245 hLn k1 k2 k3 h0) (vN134 ⟨hp, ht⟩ (xt13_7 hK hA) h0 (by decide)) (fun a1 b1 a2 b2 _ _ _ q1 q2 hi => vInv_p hi q1 q2)
  · obtain ⟨dr, wp, co, pr, cnt, W, T, n, a0, R, hg⟩ := hb
    exact vJo (vE134 hLn hK hP hA h0) (fun a1 b1 k1 k2 k3 k4 => vE245 hLn k1 k2 k3 h0) (uB134 hg h0 ht.1 hq.1 hq.2 (by decide)) (fun a1 b1 a2 b2 g1 g2 g3 q1 q2 hi => vInv_m hI0 g1 g2 g3 (by decide +kernel) (by decide +kernel) (by decide +kernel) (by decide +kernel) q1 q2 ⟨dr, wp, co, pr, cnt, W, T, n, a0, R, hi⟩)
end
end
