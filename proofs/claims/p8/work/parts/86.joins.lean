/-! by hand: the reference reads a wish: joinsEnd, hasOpen, opens -/
section
set_option maxRecDepth 100000
variable {ro : Nat → Nat × (Nat → Int32)} {L : aLa} {Kp : pmS → Prop} {σ0 σ σ' σs : pmS} {ρ ρ' : Nat → Int} {cl : pmL} {cs vs : List Value} {Q : Option Value → pmS → Prop} {n n2 W p k : Nat}
def kWj : Nat := 24443471957792058209195131312833264775239811542705476469888533239565313365018546577418856628011241914189611636822637018407192167359266608327246602710763623669526931550450211253500707580594302739831398142540399142113719058851373738547498379686644090812175125073065329460450003504136433885719903390776090707888546980236068309975338414366252186622385946379213894827478168079710522635123473317871436361648090189367367577704594588961051908098461412928342006117912331868741023983711186627720369930240
def kWw : Nat := 30354201441027016733116592294117482916287606860189680019559568902170379456331382784
def kL165 (f : aF) : bL := [some (.inr [87]), some (.inl (false, f))]
def kIv2 (al : Nat) : aI := (.ofNat al, .ofNat al)
def kJn (al t : Nat) : Bool := Nat.beq t 5 || (Nat.beq t 6 && Nat.beq al 1)
def kA165 (I : aE) (f : aF) : bNq := bPc 1 165 0 (kL165 (2, .ofNat 0)) [] (kBe I) [] (kHv [(14, f)]) 0
def kB165 (al t : Nat) : bNq := bPc 1 165 28 (kL165 (2, .ofNat 0)) [.inl (false, 0, .ofNat 0), .inl (false, 0, .ofNat 0), .inl (false, 0, .ofNat t), .inr [87]] (kBe [kIv2 al, (.ofNat 1, .ofNat 40), kIv2 t]) [] [] 0
def kA31j : bNq := bPc 1 165 31 (kL165 (2, .ofNat 0)) [] (kBe [(.ofNat 0, .ofNat 1), (.ofNat 1, .ofNat 40)]) [] (kHv [(14, (3, .ofNat 0))]) 0
def kB31j : bNq := bPc 1 165 0 (kL165 (2, .ofNat 0)) [] (kBe [(.ofNat 0, .ofNat 1), (.ofNat 1, .ofNat 40)]) [] (kHv [(14, (3, .negSucc 0))]) kWw
def kRj : bS := [(94, (3, .negSucc 0), (4, .ofNat 0))]
theorem kS165 : (bSeg (bCc []) bNo [kB31j] kA31j [] && (List.range 2).all fun al => bSeg (bCc []) (bFi 3 [(none, kBe [kIv2 al], [])] 0) [] (kA165 [kIv2 al] (0, .ofNat 0)) [] && (List.range 9).all fun t => bif kJn al t then bSeg (bCc []) bNo [kB165 al t] (kA165 [kIv2 al, (.ofNat 1, .ofNat 40), kIv2 t] (3, .ofNat 0)) kRj else bSeg (bCc []) (bFi 5 [(none, kBe [kIv2 al, (.ofNat 1, .ofNat 40), kIv2 t], [])] 0) [] (kA165 [kIv2 al, (.ofNat 1, .ofNat 40), kIv2 t] (3, .ofNat 0)) kRj) = true := by decide +kernel
theorem kM165 : (bMk bSp 165).1 = 12 ∧ (bMk bSp 165).2.2.1 = 0 := by decide +kernel
def kQj (al : Nat) (σs : pmS) : Option Value → pmS → Prop := fun v σ' => v = none ∧ kIv 1 σ' ∧ kSm kWj σ' σs ∧ (∀ j : Nat, (j : Int) < kI σs 87 14 → kI σs 94 j = 8 → (j : Int) < kI σ' 87 14) ∧ (al = 1 → ∀ j : Nat, (j : Int) + 1 = kI σ' 87 14 → ¬ (kI σ' 94 j = 5 ∨ kI σ' 94 j = 6))
theorem kL165_ok {f g : aF} (h : bLok n ρ (kL165 f) cl) (hg : g.1 < n2) (he : ρ f.1 + f.2 = ρ' g.1 + g.2) : bLok n2 ρ' (kL165 g) cl := by
  refine bLok_re h rfl fun j y hy => ?_
  match j, hy with
  | 0, hy => cases hy; exact ⟨_, rfl, fun v hv => by rw [bVok_one hv]; exact List.mem_singleton.mpr rfl⟩
  | 1, hy => cases hy; exact ⟨_, rfl, bVok_re hg he⟩
  | j + 2, hy => cases hy
theorem kJoinsL (h : bHyp ro L kP) (hL : 0 ≤ L.1 ∧ L.1 ≤ 3072) {al : Nat} (hal : al < 2) : ∀ (n : Nat) (σ : pmS) (cl : pmL), (kI σ 87 14).toNat = n → kIv 1 σ → kSm kWj σ σs → (∀ j : Nat, (j : Int) < kI σs 87 14 → kI σs 94 j = 8 → (j : Int) < kI σ 87 14) → bLok 3 (kRv L [(al : Int)]) (kL165 (2, .ofNat 0)) cl → pmWp ro 1 12 165 0 0 cl [] σ (kQj al σs) := by
  have hk := kS165
  rw [Bool.and_eq_true] at hk
  obtain ⟨k1, k2⟩ := hk
  have k2 := List.all_eq_true.mp k2 al (List.mem_range.mpr hal)
  rw [Bool.and_eq_true] at k2
  obtain ⟨k2, k3⟩ := k2
  intro n
  induction n with
  | zero =>
    intro σ cl hn hI hsm h8 hl
    have h14 : kI σ 87 14 = 0 := by have := hI.2.2.2.1; omega
    have hend : bFinOk L 3 (kRv L [(al : Int)]) kP σ (bFi 3 [(none, kBe [kIv2 al], [])] 0) (kQj al σs) := bFin_mono (bFi_end (by decide) rfl) fun v σ' hh => by
      obtain ⟨g1, g2, g3, g4⟩ := hh
      have i14 : kI σ' 87 14 = kI σ 87 14 := g4.i (Nat.zero_testBit _)
      exact ⟨g1, kIv_sm hI g2 (g3 (by decide +kernel)) g4 (Nat.zero_testBit _) (Nat.zero_testBit _) (Nat.zero_testBit _) (Nat.zero_testBit _) (Nat.zero_testBit _) (Nat.zero_testBit _), kSm.tr (kSm.le g4 (by decide +kernel)) hsm, fun j hj hj8 => by rw [i14]; exact h8 j hj hj8, fun _ j hj => by omega⟩
    have hgo := bSeg_ok (Kp := kP) (σ := σ) (σ0 := σ) (ρ := kRv L [(al : Int)]) (E := kBe [kIv2 al]) (cl := cl) (cs := []) (Q := kQj al σs) h bCn_ok k2 (fun B hB => absurd hB List.not_mem_nil) (aXok0 (kEnv hL ⟨⟨Int.le_refl _, Int.le_refl _⟩, trivial⟩)) (kMok hI.1 hI.2.1 (by decide +kernel) ⟨⟨(show 0 < 3 by decide), by rw [h14]; rfl⟩, trivial⟩ kNoR) hl trivial hend (fun B hB => absurd hB List.not_mem_nil)
    rw [kM165.1, kM165.2] at hgo
    exact hgo
  | succ n ih =>
    intro σ cl hn hI hsm h8 hl
    obtain ⟨hok, hP, b1, b2, b3, b4, b5, b6⟩ := id hI
    have ht := kOk_at (k := n) hok (by exact rfl) (show bGe 94 n = [(0, 8)] from bGu_ok (by decide +kernel) n)
    have hwn : kI σ 87 14 = (n : Int) + 1 := by omega
    obtain ⟨t, hte⟩ : ∃ t : Nat, kI σ 94 n = t := ⟨(kI σ 94 n).toNat, by omega⟩
    have hk := List.all_eq_true.mp k3 t (List.mem_range.mpr (by omega))
    have hE : aEok L (kRv L [(al : Int), kI σ 87 14, kI σ 94 n]) (kBe [kIv2 al, (.ofNat 1, .ofNat 40), kIv2 t]) := kEnv hL ⟨⟨Int.le_refl _, Int.le_refl _⟩, ⟨by show (1 : Int) ≤ kI σ 87 14; omega, by show kI σ 87 14 ≤ (40 : Int); omega⟩, ⟨by show (t : Int) ≤ kI σ 94 n; omega, by show kI σ 94 n ≤ (t : Int); omega⟩, trivial⟩
    have hM : bMok 5 (kRv L [(al : Int), kI σ 87 14, kI σ 94 n]) kP σ (kHv [(14, (3, .ofNat 0))], kRj, 0) σ := kMok hok hP (by decide +kernel) ⟨⟨by decide, (Int.add_zero _).symm⟩, trivial⟩ (kOneR (by decide) (by decide) rfl (by
      show kI σ 94 (kI σ 87 14 + -1).toNat = kI σ 94 n
      rw [show (kI σ 87 14 + -1).toNat = n by omega]))
    have hl5 : bLok 5 (kRv L [(al : Int), kI σ 87 14, kI σ 94 n]) (kL165 (2, .ofNat 0)) cl := kL165_ok hl (by decide) rfl
    cases hj : kJn al t with
    | false =>
      rw [hj, cond_false] at hk
      have hnj : t ≠ 5 ∧ (al = 1 → t ≠ 6) := by
        unfold kJn at hj
        rw [Bool.or_eq_false_iff, Bool.and_eq_false_iff] at hj
        refine ⟨fun e => ?_, fun e1 e2 => ?_⟩
        · rw [e] at hj
          exact absurd hj.1 (by decide)
        · rw [e1, e2] at hj
          rcases hj.2 with e | e
          · exact absurd e (by decide)
          · exact absurd e (by decide)
      have hend : bFinOk L 5 (kRv L [(al : Int), kI σ 87 14, kI σ 94 n]) kP σ (bFi 5 [(none, kBe [kIv2 al, (.ofNat 1, .ofNat 40), kIv2 t], [])] 0) (kQj al σs) := bFin_mono (bFi_end (by decide) rfl) fun v σ' hh => by
        obtain ⟨g1, g2, g3, g4⟩ := hh
        have i14 : kI σ' 87 14 = kI σ 87 14 := g4.i (Nat.zero_testBit _)
        refine ⟨g1, kIv_sm hI g2 (g3 (by decide +kernel)) g4 (Nat.zero_testBit _) (Nat.zero_testBit _) (Nat.zero_testBit _) (Nat.zero_testBit _) (Nat.zero_testBit _) (Nat.zero_testBit _), kSm.tr (kSm.le g4 (by decide +kernel)) hsm, fun j hj hj8 => by rw [i14]; exact h8 j hj hj8, fun e1 j hj => ?_⟩
        have hjn : j = n := by omega
        subst hjn
        have i94 : kI σ' 94 j = kI σ 94 j := g4.i (Nat.zero_testBit _)
        rw [i94, hte]
        have := hnj.1
        have := hnj.2 e1
        omega
      have hgo := bSeg_ok (Kp := kP) (σ := σ) (σ0 := σ) (ρ := kRv L [(al : Int), kI σ 87 14, kI σ 94 n]) (E := kBe [kIv2 al, (.ofNat 1, .ofNat 40), kIv2 t]) (cl := cl) (cs := []) (Q := kQj al σs) h bCn_ok hk (fun B hB => absurd hB List.not_mem_nil) (aXok0 hE) hM hl5 trivial hend (fun B hB => absurd hB List.not_mem_nil)
      rw [kM165.1, kM165.2] at hgo
      exact hgo
    | true =>
      rw [hj, cond_true] at hk
      have ht56 : t = 5 ∨ t = 6 := by
        unfold kJn at hj
        rw [Bool.or_eq_true, Bool.and_eq_true] at hj
        rcases hj with e | e
        · exact Or.inl (Nat.eq_of_beq_eq_true e)
        · exact Or.inr (Nat.eq_of_beq_eq_true e.1)
      have hgo := bSeg_ok (Kp := kP) (σ := σ) (σ0 := σ) (ρ := kRv L [(al : Int), kI σ 87 14, kI σ 94 n]) (E := kBe [kIv2 al, (.ofNat 1, .ofNat 40), kIv2 t]) (cl := cl) (cs := []) (Q := kQj al σs) h bCn_ok hk (fun B hB => by rw [List.mem_singleton.mp hB]; rfl) (aXok0 hE) hM hl5 trivial bNo_ok ?_
      · rw [kM165.1, kM165.2] at hgo
        exact hgo
      intro B hB ρ1 cl1 cs1 σ1 hA
      rw [List.mem_singleton] at hB
      subst hB
      obtain ⟨v1, r1, rfl, hv1, hs1⟩ := bSok_c (show bSok 5 ρ1 [.inl (false, 0, .ofNat 0), .inl (false, 0, .ofNat 0), .inl (false, 0, .ofNat t), .inr [87]] cs1 from hA.2.2)
      obtain ⟨v2, r2, rfl, hv2, hs2⟩ := bSok_c hs1
      obtain ⟨v3, r3, rfl, hv3, hs3⟩ := bSok_c hs2
      obtain ⟨v4, r4, rfl, hv4, hs4⟩ := bSok_c hs3
      obtain ⟨x1, rfl, hx1⟩ := bVok_int hv1
      obtain ⟨x2, rfl, hx2⟩ := bVok_int hv2
      obtain ⟨x3, rfl, hx3⟩ := bVok_int hv3
      have := bVok_one hv4
      subst this
      have := bSok_n hs4
      subst this
      have h0 : ρ1 0 = 0 := hA.env.1.1
      have hx1 : x1.toInt = ρ1 0 + 0 := hx1.2
      have hx2 : x2.toInt = ρ1 0 + 0 := hx2.2
      have hx3 : x3.toInt = ρ1 0 + (t : Int) := hx3.2
      have e12 : ρ1 2 = (al : Int) := hA.ext 2 (show 2 < 5 by decide)
      have s1 : kSm 0 σ1 σ := hA.sm
      have hI1 := kIv_sm hI (hA.ok rfl) (hA.kp (show bFg 0 = true by decide +kernel)) s1 (Nat.zero_testBit _) (Nat.zero_testBit _) (Nat.zero_testBit _) (Nat.zero_testBit _) (Nat.zero_testBit _) (Nat.zero_testBit _)
      have i14 : kI σ1 87 14 = kI σ 87 14 := s1.i (Nat.zero_testBit _)
      have i94 : kI σ1 94 n = kI σ 94 n := s1.i (Nat.zero_testBit _)
      obtain ⟨hok1, hP1, d1, d2, d3, d4, d5, d6⟩ := id hI1
      have hcs : (t, 1, 1) ∈ kCs := by rcases ht56 with rfl | rfl <;> decide
      unfold bWa
      rw [show (kB165 al t).2.1 = 165 from rfl, kM165.1, kM165.2, show (kB165 al t).2.2.1 = 28 from rfl, show (kB165 al t).1 = 1 from rfl]
      refine pmWp_iv (k := 202) (mm := 161) (nn := 3) (oo := 12) (p := 87) (rest := []) (as := [.int x3, .int x2, .int x1]) (u := (0, true)) (a := 0) (b := 0) (c := true) rfl rfl rfl rfl rfl (by rw [hok1.1]; rfl) (by decide) ?_
      refine pmCs_mono (kSays h hL (w := t) (A := 1) (B := 1) hcs (by omega) (by omega) (by omega) hok1 hP1 (by omega)) ?_
      rintro v σ2 ⟨rfl, hok2, hP2, s2, c2, z, hz, row2⟩
      have j14 : kI σ2 87 14 = kI σ1 87 14 := s2.i (by decide +kernel)
      have j10 : kI σ2 87 10 = kI σ1 87 10 := s2.i (by decide +kernel)
      have j11 : kI σ2 87 11 = kI σ1 87 11 := s2.i (by decide +kernel)
      have hE2 : aEok L (kRv L [(al : Int), kI σ2 87 14]) (kBe [(.ofNat 0, .ofNat 1), (.ofNat 1, .ofNat 40)]) := kEnv hL ⟨⟨by show (0 : Int) ≤ (al : Int); omega, by show (al : Int) ≤ 1; omega⟩, ⟨by show (1 : Int) ≤ kI σ2 87 14; omega, by show kI σ2 87 14 ≤ (40 : Int); omega⟩, trivial⟩
      have hl2 : bLok 4 (kRv L [(al : Int), kI σ2 87 14]) (kL165 (2, .ofNat 0)) cl1 := kL165_ok (show bLok 5 ρ1 (kL165 (2, .ofNat 0)) cl1 from hA.2.1) (by decide) (by show ρ1 2 + 0 = (al : Int) + 0; omega)
      have hgo := bSeg_ok (Kp := kP) (σ := σ2) (σ0 := σ2) (ρ := kRv L [(al : Int), kI σ2 87 14]) (E := kBe [(.ofNat 0, .ofNat 1), (.ofNat 1, .ofNat 40)]) (cl := cl1) (cs := []) (Q := kQj al σs) h bCn_ok k1 (fun B hB => by rw [List.mem_singleton.mp hB]; rfl) (aXok0 hE2) (kMok hok2 hP2 (by decide +kernel) ⟨⟨(show 3 < 4 by decide), (Int.add_zero _).symm⟩, trivial⟩ kNoR) hl2 trivial bNo_ok ?_
      · rw [kM165.1, kM165.2] at hgo
        exact hgo
      intro B hB ρ3 cl3 cs3 σ3 hA3
      rw [List.mem_singleton] at hB
      subst hB
      have := bSok_n (show bSok 4 ρ3 [] cs3 from hA3.2.2)
      subst this
      have s3 : kSm kWw σ3 σ2 := hA3.sm
      have hok3 : kOk σ3 := kOk_m (E := kBe [(.ofNat 0, .ofNat 1), (.ofNat 1, .ofNat 40)]) hA3.env (by decide +kernel) hA3.1.2.1
      have hP3 := hA3.kp (show bFg kWw = true by decide +kernel)
      have e2 : ρ3 2 = (al : Int) := hA3.ext 2 (by decide)
      have e3 : ρ3 3 = kI σ2 87 14 := hA3.ext 3 (by decide)
      have l14 : kI σ3 87 14 = ρ3 3 + -1 := kCell (f := (3, .negSucc 0)) hA3 (by decide +kernel) rfl
      have l15 : kI σ3 87 15 = kI σ2 87 15 := s3.i (by decide +kernel)
      have l10 : kI σ3 87 10 = kI σ2 87 10 := s3.i (by decide +kernel)
      have l11 : kI σ3 87 11 = kI σ2 87 11 := s3.i (by decide +kernel)
      have w3 : kWts σ3 = kWts σ1 := funext fun j => (s3.r (by decide +kernel) (by decide +kernel) j).trans (s2.r (by decide +kernel) (by decide +kernel) j)
      have q3 : ∀ j : Nat, kSaid σ3 j = if (j : Int) = kI σ1 87 15 then z else kSaid σ1 j := fun j => (s3.r (by decide +kernel) (by decide +kernel) j).trans (row2 j)
      unfold bWa
      rw [show kB31j.2.1 = 165 from rfl, kM165.1, kM165.2, show kB31j.2.2.1 = 0 from rfl, show kB31j.1 = 1 from rfl]
      have hsm3 : kSm kWj σ3 σs := kSm.tr (kSm.le s3 (by decide +kernel)) (kSm.tr (kSm.le s2 (by decide +kernel)) (kSm.tr (kSm.le s1 (by decide +kernel)) hsm))
      refine ih σ3 cl3 (by omega) ⟨hok3, hP3, by omega, by omega, by omega, by omega, by omega, ?_⟩ hsm3 (fun j hj hj8 => ?_) ?_
      · have h15 : (kI σ3 87 15).toNat = (kI σ1 87 15).toNat + 1 := by omega
        have hq0 : kSaid σ3 (kI σ1 87 15).toNat = z := by
          rw [q3]
          exact if_pos (by omega)
        rw [h15, kD_say d6 (fun j hj => by rw [q3, if_neg (by omega)]), hq0, hz]
        have hb : kBn (kWts σ1) (kI σ1 87 14).toNat = kBn (kWts σ3) (kI σ3 87 14).toNat + 1 := by
          rw [w3, show (kI σ1 87 14).toNat = (kI σ3 87 14).toNat + 1 by omega]
          show kBn (kWts σ1) (kI σ3 87 14).toNat + _ = _
          have : kWts σ1 (kI σ3 87 14).toNat = t := by
            rw [show (kI σ3 87 14).toNat = n by omega]
            exact i94.trans hte
          rw [this, if_pos (by omega)]
        rw [if_neg (by omega), if_neg (by omega), if_pos (by omega)]
        congr 1
      · have hjw := h8 j hj hj8
        have hjn : j ≠ n := by
          rintro rfl
          have i1 : kI σ 94 j = kI σs 94 j := hsm.r (by decide +kernel) (by decide +kernel) j
          omega
        omega
      · exact kL165_ok (show bLok 4 ρ3 (kL165 (2, .ofNat 0)) cl3 from hA3.2.1) (by decide) (by show ρ3 2 + 0 = (al : Int) + 0; omega)
theorem kJoins (h : bHyp ro L kP) (hL : 0 ≤ L.1 ∧ L.1 ≤ 3072) {al : Nat} {av : Int32} (hal : al < 2) (ha : av.toInt = al) (hI : kIv 1 σ) : pmCs ro 2 165 [.ref 87, .int av] σ (kQj al σ) := by
  refine bEc_ok (n := 3) (ρ := kRv L [(al : Int)]) (aB := [.inr [87], .inl (false, 2, .ofNat 0)]) (pl := kL165 (2, .ofNat 0)) (by decide +kernel) ⟨List.mem_singleton.mpr rfl, ⟨by decide, by rw [ha]; exact (Int.add_zero _).symm⟩, trivial⟩ fun cl hl => ?_
  rw [kM165.1, kM165.2]
  exact kJoinsL h hL hal _ σ cl rfl hI kSm.rf (fun j hj _ => hj) hl
/-! hasOpen -/
def kB164 : bNq := bPc 0 164 2 (kL165 (0, .ofNat 0)) [] (kBe []) [] [] 0
def kA164 (I : aE) (C : aC) (f : aF) : bNq := bPc 0 164 2 (kL165 (2, .ofNat 0)) [] (kBe I) C (kHv [(14, f)]) 0
def kB164n : bNq := bPc 0 164 2 (kL165 (2, .ofNat 1)) [] (kBe [(.ofNat 0, .ofNat 59), (.ofNat 1, .ofNat 60), (.ofNat 0, .ofNat 7)]) [] [] 0
def kRh : bS := [(94, (2, .ofNat 0), (4, .ofNat 0))]
theorem kS164 : (bSeg (bCc []) bNo [kB164] (bPc 0 164 0 [some (.inr [87]), none] [] (kBe []) [] [] 0) [] && (bSeg (bCc []) (bFi 3 [(some (.inl (false, 0, .ofNat 0)), kBe [(.ofNat 0, .ofNat 60)], [])] 0) [] (kA164 [(.ofNat 0, .ofNat 60)] [] (2, .ofNat 0)) [] && (bSeg (bCc []) (bFi 5 [(some (.inl (false, 0, .ofNat 1)), kBe [(.ofNat 0, .ofNat 59), (.ofNat 1, .ofNat 60), (.ofNat 8, .ofNat 8)], [])] 0) [] (kA164 [(.ofNat 0, .ofNat 59), (.ofNat 1, .ofNat 60), (.ofNat 8, .ofNat 8)] [(2, 3, .negSucc 0)] (3, .ofNat 0)) kRh && bSeg (bCc []) bNo [kB164n] (kA164 [(.ofNat 0, .ofNat 59), (.ofNat 1, .ofNat 60), (.ofNat 0, .ofNat 7)] [(2, 3, .negSucc 0)] (3, .ofNat 0)) kRh))) = true := by decide +kernel
theorem kM164 : (bMk bSp 164).1 = 12 ∧ (bMk bSp 164).2.2.1 = 2 := by decide +kernel
def kQh (σs : pmS) : Option Value → pmS → Prop := fun v σ' => ∃ x : Int32, v = some (.int x) ∧ (x.toInt = 0 ∨ (x.toInt = 1 ∧ ∃ j : Nat, (j : Int) < kI σs 87 14 ∧ kI σs 94 j = 8)) ∧ kOk σ' ∧ kP σ' ∧ kSm 0 σ' σs
theorem kHasL (h : bHyp ro L kP) (hL : 0 ≤ L.1 ∧ L.1 ≤ 3072) : ∀ (t k : Nat) (σ : pmS) (cl : pmL), (k : Int) + t = kI σ 87 14 → kOk σ → kP σ → kSm 0 σ σs → bLok 3 (kRv L [(k : Int)]) (kL165 (2, .ofNat 0)) cl → pmWp ro 0 12 164 2 2 cl [] σ (kQh σs) := by
  have hk := kS164
  simp only [Bool.and_eq_true] at hk
  obtain ⟨_, k1, k2, k3⟩ := hk
  intro t
  induction t with
  | zero =>
    intro k σ cl hkt hok hP hsm hl
    have hw := kOk_at (p := 87) (k := 14) (lo := 0) (hi := 60) hok (by decide +kernel) (by decide +kernel)
    have hend : bFinOk L 3 (kRv L [(k : Int)]) kP σ (bFi 3 [(some (.inl (false, 0, .ofNat 0)), kBe [(.ofNat 0, .ofNat 60)], [])] 0) (kQh σs) := bFin_mono (bFi_int (by decide) rfl (by decide)) fun v σ' hh => by
      obtain ⟨x, rfl, g1, g2, g3, g4, g5⟩ := hh
      exact ⟨x, rfl, Or.inl g1, g3, g4 (by decide +kernel), kSm.tr g5 hsm⟩
    have hgo := bSeg_ok (Kp := kP) (σ := σ) (σ0 := σ) (ρ := kRv L [(k : Int)]) (E := kBe [(.ofNat 0, .ofNat 60)]) (cl := cl) (cs := []) (Q := kQh σs) h bCn_ok k1 (fun B hB => absurd hB List.not_mem_nil) (aXok0 (kEnv hL ⟨⟨by show (0 : Int) ≤ (k : Int); omega, by show (k : Int) ≤ 60; omega⟩, trivial⟩)) (kMok hok hP (by decide +kernel) ⟨⟨(show 2 < 3 by decide), by show kI σ 87 14 = (k : Int) + 0; omega⟩, trivial⟩ kNoR) hl trivial hend (fun B hB => absurd hB List.not_mem_nil)
    rw [kM164.1, kM164.2] at hgo
    exact hgo
  | succ t ih =>
    intro k σ cl hkt hok hP hsm hl
    have hw := kOk_at (p := 87) (k := 14) (lo := 0) (hi := 60) hok (by decide +kernel) (by decide +kernel)
    have ht := kOk_at (k := k) hok (by exact rfl) (show bGe 94 k = [(0, 8)] from bGu_ok (by decide +kernel) k)
    have hE : ∀ {lo hi : Int}, lo ≤ kI σ 94 k ∧ kI σ 94 k ≤ hi → aEok L (kRv L [(k : Int), kI σ 87 14, kI σ 94 k]) (kBe [(.ofNat 0, .ofNat 59), (.ofNat 1, .ofNat 60), (lo, hi)]) := fun hh => kEnv hL ⟨⟨by show (0 : Int) ≤ (k : Int); omega, by show (k : Int) ≤ 59; omega⟩, ⟨by show (1 : Int) ≤ kI σ 87 14; omega, by show kI σ 87 14 ≤ (60 : Int); omega⟩, hh, trivial⟩
    have hM : bMok 5 (kRv L [(k : Int), kI σ 87 14, kI σ 94 k]) kP σ (kHv [(14, (3, .ofNat 0))], kRh, 0) σ := kMok hok hP (by decide +kernel) ⟨⟨by decide, (Int.add_zero _).symm⟩, trivial⟩ (kOneR (c := .ofNat 0) (by decide) (by decide) rfl (by
      show kI σ 94 ((k : Int) + 0).toNat = kI σ 94 k
      rw [show ((k : Int) + 0).toNat = k by omega]))
    have hC : aDok 5 (kRv L [(k : Int), kI σ 87 14, kI σ 94 k]) [(2, 3, .negSucc 0)] := fun q hq => by
      rw [List.mem_singleton] at hq
      subst hq
      refine ⟨(show 2 < 5 by decide), (show 3 < 5 by decide), ?_⟩
      show (k : Int) - kI σ 87 14 ≤ -1
      omega
    have hl5 : bLok 5 (kRv L [(k : Int), kI σ 87 14, kI σ 94 k]) (kL165 (2, .ofNat 0)) cl := kL165_ok hl (by decide) rfl
    by_cases c8 : kI σ 94 k = 8
    · have hend : bFinOk L 5 (kRv L [(k : Int), kI σ 87 14, kI σ 94 k]) kP σ (bFi 5 [(some (.inl (false, 0, .ofNat 1)), kBe [(.ofNat 0, .ofNat 59), (.ofNat 1, .ofNat 60), (.ofNat 8, .ofNat 8)], [])] 0) (kQh σs) := bFin_mono (bFi_int (by decide) rfl (by decide)) fun v σ' hh => by
        obtain ⟨x, rfl, g1, g2, g3, g4, g5⟩ := hh
        refine ⟨x, rfl, Or.inr ⟨g1, k, ?_, ?_⟩, g3, g4 (by decide +kernel), kSm.tr g5 hsm⟩
        · rw [← hsm.i (p := 87) (k := 14) (Nat.zero_testBit _)]
          omega
        · rw [← hsm.i (p := 94) (k := k) (Nat.zero_testBit _)]
          exact c8
      have hgo := bSeg_ok (Kp := kP) (σ := σ) (σ0 := σ) (ρ := kRv L [(k : Int), kI σ 87 14, kI σ 94 k]) (E := kBe [(.ofNat 0, .ofNat 59), (.ofNat 1, .ofNat 60), (.ofNat 8, .ofNat 8)]) (cl := cl) (cs := []) (Q := kQh σs) h bCn_ok k2 (fun B hB => absurd hB List.not_mem_nil) ⟨hE ⟨by show (8 : Int) ≤ kI σ 94 k; omega, by show kI σ 94 k ≤ (8 : Int); omega⟩, hC, fun q hq => absurd hq List.not_mem_nil⟩ hM hl5 trivial hend (fun B hB => absurd hB List.not_mem_nil)
      rw [kM164.1, kM164.2] at hgo
      exact hgo
    · have hgo := bSeg_ok (Kp := kP) (σ := σ) (σ0 := σ) (ρ := kRv L [(k : Int), kI σ 87 14, kI σ 94 k]) (E := kBe [(.ofNat 0, .ofNat 59), (.ofNat 1, .ofNat 60), (.ofNat 0, .ofNat 7)]) (cl := cl) (cs := []) (Q := kQh σs) h bCn_ok k3 (fun B hB => by rw [List.mem_singleton.mp hB]; rfl) ⟨hE ⟨by show (0 : Int) ≤ kI σ 94 k; omega, by show kI σ 94 k ≤ (7 : Int); omega⟩, hC, fun q hq => absurd hq List.not_mem_nil⟩ hM hl5 trivial bNo_ok ?_
      · rw [kM164.1, kM164.2] at hgo
        exact hgo
      intro B hB ρ1 cl1 cs1 σ1 hA
      rw [List.mem_singleton] at hB
      subst hB
      have := bSok_n (show bSok 5 ρ1 [] cs1 from hA.2.2)
      subst this
      have s1 : kSm 0 σ1 σ := hA.sm
      have i14 : kI σ1 87 14 = kI σ 87 14 := s1.i (Nat.zero_testBit _)
      have e2 : ρ1 2 = (k : Int) := hA.ext 2 (by decide)
      unfold bWa
      rw [show kB164n.2.1 = 164 from rfl, kM164.1, kM164.2, show kB164n.2.2.1 = 2 from rfl, show kB164n.1 = 0 from rfl]
      refine ih (k + 1) σ1 cl1 (by omega) (hA.ok rfl) (hA.kp (show bFg 0 = true by decide +kernel)) (kSm.tr s1 hsm) ?_
      exact kL165_ok (show bLok 5 ρ1 (kL165 (2, .ofNat 1)) cl1 from hA.2.1) (by decide) (by show ρ1 2 + 1 = ((k + 1 : Nat) : Int) + 0; omega)
theorem kHas (h : bHyp ro L kP) (hL : 0 ≤ L.1 ∧ L.1 ≤ 3072) (hok : kOk σ) (hP : kP σ) : pmCs ro 1 164 [.ref 87] σ (kQh σ) := by
  have hk := kS164
  simp only [Bool.and_eq_true] at hk
  refine bEc_ok (n := 2) (ρ := kRv L []) (aB := [.inr [87]]) (pl := [some (.inr [87]), none]) (by decide +kernel) ⟨List.mem_singleton.mpr rfl, trivial⟩ fun cl hl => ?_
  refine bSeg_ok (Q := kQh σ) (ρ := kRv L []) (E := kBe []) h bCn_ok hk.1 (fun B hB => by rw [List.mem_singleton.mp hB]; rfl) (aXok0 (kEnv hL trivial)) (kOk_mok hok hP) hl trivial bNo_ok ?_
  intro B hB ρ1 cl1 cs1 σ1 hA
  rw [List.mem_singleton] at hB
  subst hB
  have := bSok_n (show bSok 2 ρ1 [] cs1 from hA.2.2)
  subst this
  have s1 : kSm 0 σ1 σ := hA.sm
  have hok1 := hA.ok rfl
  have hw := kOk_at (p := 87) (k := 14) (lo := 0) (hi := 60) hok1 (by decide +kernel) (by decide +kernel)
  have h0 : ρ1 0 = 0 := hA.env.1.1
  unfold bWa
  rw [show kB164.2.1 = 164 from rfl, kM164.1, kM164.2, show kB164.2.2.1 = 2 from rfl, show kB164.1 = 0 from rfl]
  refine kHasL (σs := σ) h hL (kI σ1 87 14).toNat 0 σ1 cl1 (by omega) hok1 (hA.kp (show bFg 0 = true by decide +kernel)) s1 ?_
  exact kL165_ok (show bLok 2 ρ1 (kL165 (0, .ofNat 0)) cl1 from hA.2.1) (by decide) (by show ρ1 0 + 0 = ((0 : Nat) : Int) + 0; omega)
/-! opens -/
def kWo : Nat := 22765651080770262549837444220588112187215705145142260014669676676627784592248537088
def kWwp : Nat := 32251339031091205278936379312499825598555582288951535020782041958556028172352094208
def kWop : Nat := 12221735978896029104597565656416632387619905771352738234944266619782656682509273288709428314005620957094805818411318509203596083679633304163623301355381811834763465775225105626750353790297151369915699071270199571056859529425686869273749189843322045406087562536532664730225001752068216942859951695388045353944273490118034154987669207183126093311192973189606947413739084039855261317561736658935718180824045094683693274540247615423255052984322618177582342936099975209376624357137521557440288522240
def kE157 : aE := kBe [(.ofNat 7, .ofNat 8), (.ofNat 0, .ofNat 39), (.ofNat 0, .ofNat 39)]
def kB157 : bNq := bPc 1 157 38 (kL165 (2, .ofNat 0)) [.inl (false, 2, .ofNat 0), .inl (false, 3, .ofNat 0), .inr [94]] kE157 [] [] kWo
def kA39 : bNq := bPc 1 157 39 (kL165 (2, .ofNat 0)) [] kE157 [] (kHv [(14, (3, .ofNat 0)), (10, (4, .ofNat 0))]) 0
theorem kS157 : (bSeg (bCc []) (bFi 5 [(some (.inl (false, 0, .ofNat 0)), kE157, [])] kWo) [kB157] (bPc 1 157 0 (kL165 (2, .ofNat 0)) [] kE157 [] (kHv [(14, (3, .ofNat 0)), (10, (4, .ofNat 0))]) 0) [] && bSeg (bCc []) (bFi 5 [(some (.inl (false, 0, .ofNat 1)), kE157, kHv [(14, (3, .ofNat 1)), (10, (4, .ofNat 1))])] kWwp) [] kA39 []) = true := by decide +kernel
theorem kM157 : (bMk bSp 157).1 = 12 ∧ (bMk bSp 157).2.2.1 = 2 := by decide +kernel
def kQop (σs : pmS) : Option Value → pmS → Prop := fun v σ' => ∃ x : Int32, v = some (.int x) ∧ kOk σ' ∧ kP σ' ∧ kSm kWop σ' σs ∧ (x.toInt = 0 ∨ (x.toInt = 1 ∧ kIv 0 σ' ∧ kI σ' 87 10 = kI σs 87 10 + 1))
theorem kOpens (h : bHyp ro L kP) (hL : 0 ≤ L.1 ∧ L.1 ≤ 3072) {wv : Int32} (hw : 7 ≤ wv.toInt ∧ wv.toInt ≤ 8) (hI : kIv 0 σ) (hp : kI σ 87 10 < kI σ 87 11) : pmCs ro 2 157 [.ref 87, .int wv] σ (kQop σ) := by
  have hk := kS157
  simp only [Bool.and_eq_true] at hk
  obtain ⟨hok, hP, b1, b2, b3, b4, b5, b6⟩ := id hI
  refine bEc_ok (n := 5) (ρ := kRv L [wv.toInt, kI σ 87 14, kI σ 87 10]) (aB := [.inr [87], .inl (false, 2, .ofNat 0)]) (pl := kL165 (2, .ofNat 0)) (by decide +kernel) ⟨List.mem_singleton.mpr rfl, ⟨by decide, (Int.add_zero _).symm⟩, trivial⟩ fun cl hl => ?_
  have hE : aEok L (kRv L [wv.toInt, kI σ 87 14, kI σ 87 10]) kE157 := kEnv hL ⟨hw, ⟨by show (0 : Int) ≤ kI σ 87 14; omega, by show kI σ 87 14 ≤ (39 : Int); omega⟩, ⟨by show (0 : Int) ≤ kI σ 87 10; omega, by show kI σ 87 10 ≤ (39 : Int); omega⟩, trivial⟩
  have hend : bFinOk L 5 (kRv L [wv.toInt, kI σ 87 14, kI σ 87 10]) kP σ (bFi 5 [(some (.inl (false, 0, .ofNat 0)), kE157, [])] kWo) (kQop σ) := bFin_mono (bFi_int (by decide) rfl (by decide)) fun v σ' hh => by
    obtain ⟨x, rfl, g1, g2, g3, g4, g5⟩ := hh
    exact ⟨x, rfl, g3, g4 (by decide +kernel), kSm.le g5 (by decide +kernel), Or.inl g1⟩
  refine bSeg_ok (Q := kQop σ) (E := kE157) h bCn_ok hk.1 (fun B hB => by rw [List.mem_singleton.mp hB]; rfl) (aXok0 hE) (kMok hok hP (by decide +kernel) ⟨⟨by decide, (Int.add_zero _).symm⟩, ⟨by decide, (Int.add_zero _).symm⟩, trivial⟩ kNoR) hl trivial hend ?_
  intro B hB ρ1 cl1 cs1 σ1 hA
  rw [List.mem_singleton] at hB
  subst hB
  obtain ⟨v1, r1, rfl, hv1, hs1⟩ := bSok_c (show bSok 5 ρ1 [.inl (false, 2, .ofNat 0), .inl (false, 3, .ofNat 0), .inr [94]] cs1 from hA.2.2)
  obtain ⟨v2, r2, rfl, hv2, hs2⟩ := bSok_c hs1
  obtain ⟨v3, r3, rfl, hv3, hs3⟩ := bSok_c hs2
  obtain ⟨x, rfl, hx⟩ := bVok_int hv1
  obtain ⟨i, rfl, hi⟩ := bVok_int hv2
  have := bVok_one hv3
  subst this
  have := bSok_n hs3
  subst this
  have e2 : ρ1 2 = wv.toInt := hA.ext 2 (by decide)
  have e3 : ρ1 3 = kI σ 87 14 := hA.ext 3 (by decide)
  have e4 : ρ1 4 = kI σ 87 10 := hA.ext 4 (by decide)
  have hx : x.toInt = ρ1 2 + 0 := hx.2
  have hi : i.toInt = ρ1 3 + 0 := hi.2
  have s1 : kSm kWo σ1 σ := hA.sm
  have hok1 := hA.ok rfl
  have hP1 := hA.kp (show bFg kWo = true by decide +kernel)
  have hI1 := kIv_sm hI hok1 hP1 s1 (by decide +kernel) (by decide +kernel) (by decide +kernel) (by decide +kernel) (by decide +kernel) (by decide +kernel)
  obtain ⟨_, _, d1, d2, d3, d4, d5, d6⟩ := id hI1
  have i14 : kI σ1 87 14 = kI σ 87 14 := s1.i (by decide +kernel)
  have i10 : kI σ1 87 10 = kI σ 87 10 := s1.i (by decide +kernel)
  have i11 : kI σ1 87 11 = kI σ 87 11 := s1.i (by decide +kernel)
  obtain ⟨hin, hni⟩ := kNat (i := i) (n := 60) (by omega) (by omega)
  have hn14 : i.toNatClampNeg = (kI σ1 87 14).toNat := by omega
  unfold bWa
  rw [show kB157.2.1 = 157 from rfl, kM157.1, kM157.2, show kB157.2.2.1 = 38 from rfl, show kB157.1 = 1 from rfl]
  refine pmWp_ias (n := 60) (rs := []) rfl (by rw [hok1.1]; rfl) hin ?_
  rw [hn14]
  generalize hσ2 : (σ1.1, pmUp σ1.2.1 94 (kI σ1 87 14).toNat x, σ1.2.2) = σ2
  have hok2 : kOk σ2 := by
    rw [← hσ2]
    refine kOk_upi hok1 rfl ?_
    rw [show bGe 94 (kI σ1 87 14).toNat = [(0, 8)] from bGu_ok (by decide +kernel) _]
    exact ⟨_, List.mem_singleton.mpr rfl, by show (0 : Int) ≤ x.toInt; omega, by show x.toInt ≤ (8 : Int); omega⟩
  have hP2 : kP σ2 := by
    rw [← hσ2]
    exact kP_upi hP1 (by decide) (by decide) (by decide) (by decide) (by decide)
  have s2 : kSm kWop σ2 σ1 := by
    rw [← hσ2]
    refine kSm.upi ?_
    rw [bRg_sing (by decide +kernel) _ 0]
    decide +kernel
  have f2 : ∀ k, kI σ2 87 k = kI σ1 87 k := fun k => by
    rw [← hσ2]
    show (pmUp σ1.2.1 94 (kI σ1 87 14).toNat x 87 k).toInt = _
    rw [kUp_ne (by decide)]
    rfl
  have q2 : kSaid σ2 = kSaid σ1 := funext fun j => by
    rw [← hσ2]
    show (pmUp σ1.2.1 94 (kI σ1 87 14).toNat x 95 j).toInt = _
    rw [kUp_ne (by decide)]
    rfl
  have w2 : ∀ j : Nat, kWts σ2 j = if j = (kI σ1 87 14).toNat then x.toInt else kWts σ1 j := fun j => by
    rw [← hσ2]
    show (if 94 = 94 ∧ j = (kI σ1 87 14).toNat then x else σ1.2.1 94 j).toInt = _
    by_cases c : j = (kI σ1 87 14).toNat
    · rw [if_pos ⟨rfl, c⟩, if_pos c]
    · rw [if_neg (fun e => c e.2), if_neg c]
      rfl
  have hE2 : aEok L ρ1 kE157 := hA.env
  have hend2 : bFinOk L 5 ρ1 kP σ2 (bFi 5 [(some (.inl (false, 0, .ofNat 1)), kE157, kHv [(14, (3, .ofNat 1)), (10, (4, .ofNat 1))])] kWwp) (kQop σ) := bFin_mono (bFi_ok (E0 := kE157) (by decide) rfl (Nat.le_refl _) aExt.rf) fun v σ' hh => by
    obtain ⟨al, hal, ρ', a1, a2, a3, a4, a5⟩ := hh
    rw [List.mem_singleton] at hal
    subst hal
    cases v with
    | none => exact a4.elim
    | some v =>
      obtain ⟨y, rfl, hy⟩ := bVok_int a4
      have hok' : kOk σ' := kOk_m (E := kE157) a3 (by decide +kernel) a5
      have hP' := a5.2.2.2.2 (show bFg kWwp = true by decide +kernel)
      have s' : kSm kWwp σ' σ2 := a5.2.2.2.1
      have h0 : ρ' 0 = 0 := a3.1.1
      have hy : y.toInt = ρ' 0 + 1 := hy.2
      have g3 : ρ' 3 = ρ1 3 := a1 3 (show 3 < 5 by decide)
      have g4 : ρ' 4 = ρ1 4 := a1 4 (show 4 < 5 by decide)
      have l14 : kI σ' 87 14 = ρ' 3 + 1 := by
        have := (a5.2.1 87 14).2
        rw [kI_z (by decide +kernel)] at this
        exact this
      have l10 : kI σ' 87 10 = ρ' 4 + 1 := by
        have := (a5.2.1 87 10).2
        rw [kI_z (by decide +kernel)] at this
        exact this
      have l15 : kI σ' 87 15 = kI σ1 87 15 := (s'.i (by decide +kernel)).trans (f2 15)
      have l11 : kI σ' 87 11 = kI σ1 87 11 := (s'.i (by decide +kernel)).trans (f2 11)
      have q' : kSaid σ' = kSaid σ1 := (funext fun j => s'.r (by decide +kernel) (by decide +kernel) j : kSaid σ' = kSaid σ2).trans q2
      have w' : kWts σ' = kWts σ2 := funext fun j => s'.r (by decide +kernel) (by decide +kernel) j
      refine ⟨y, rfl, hok', hP', kSm.tr (kSm.le s' (by decide +kernel)) (kSm.tr s2 (kSm.le s1 (by decide +kernel))), Or.inr ⟨by omega, ⟨hok', hP', by omega, by omega, by omega, by omega, by omega, ?_⟩, by omega⟩⟩
      rw [q', l15, d6, w', show (kI σ' 87 14).toNat = (kI σ1 87 14).toNat + 1 by omega]
      congr 1
      show _ = kBn (kWts σ2) (kI σ1 87 14).toNat + _ + 0
      rw [kBn_cg (s := kWts σ1) (s' := kWts σ2) (fun j hj => by rw [w2, if_neg (by omega)]), w2, if_pos rfl, if_neg (by omega)]
  have hgo := bSeg_ok (Kp := kP) (σ := σ2) (σ0 := σ2) (ρ := ρ1) (E := kE157) (cl := cl1) (cs := []) (Q := kQop σ) h bCn_ok hk.2 (fun B hB => absurd hB List.not_mem_nil) (aXok0 hE2) (kMok hok2 hP2 (by decide +kernel) ⟨⟨by decide, by rw [f2, i14, ← e3]; exact (Int.add_zero _).symm⟩, ⟨by decide, by rw [f2, i10, ← e4]; exact (Int.add_zero _).symm⟩, trivial⟩ kNoR) hA.2.1 trivial hend2 (fun B hB => absurd hB List.not_mem_nil)
  rw [kM157.1, kM157.2] at hgo
  exact hgo
end
