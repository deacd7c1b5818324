/-! exact: the class performs a deed -/
section
set_option maxRecDepth 100000
theorem xi83 : pmInf[83]? = some pmI_83 := rfl
theorem xi91 : pmInf[91]? = some pmI_91 := rfl
theorem xc83_0 : pmCode 83 0 = some (.iload_n 1) ∧ 0 + 1 = 1 := ⟨rfl, rfl⟩
theorem xc83_1 : pmCode 83 1 = some (.ifCond .ne 11) ∧ ((1 : Nat) : Int) + 11 = ((12 : Nat) : Int) ∧ 1 + 3 = 4 := ⟨rfl, rfl, rfl⟩
theorem xc83_4 : pmCode 83 4 = some (.iload_n 0) ∧ 4 + 1 = 5 := ⟨rfl, rfl⟩
theorem xc83_5 : pmCode 83 5 = some (.bipush 6) ∧ 5 + 2 = 7 := ⟨rfl, rfl⟩
theorem xc83_7 : pmCode 83 7 = some .ishr ∧ 7 + 1 = 8 := ⟨rfl, rfl⟩
theorem xc83_8 : pmCode 83 8 = some (.bipush 7) ∧ 8 + 2 = 10 := ⟨rfl, rfl⟩
theorem xc83_10 : pmCode 83 10 = some .iand ∧ 10 + 1 = 11 := ⟨rfl, rfl⟩
theorem xc83_11 : pmCode 83 11 = some .ireturn := rfl
theorem xc83_12 : pmCode 83 12 = some (.iload_n 1) ∧ 12 + 1 = 13 := ⟨rfl, rfl⟩
theorem xc83_13 : pmCode 83 13 = some (.iconst 1) ∧ 13 + 1 = 14 := ⟨rfl, rfl⟩
theorem xc83_14 : pmCode 83 14 = some (.if_icmp .ne 12) ∧ ((14 : Nat) : Int) + 12 = ((26 : Nat) : Int) ∧ 14 + 3 = 17 := ⟨rfl, rfl, rfl⟩
theorem xc83_17 : pmCode 83 17 = some (.iload_n 0) ∧ 17 + 1 = 18 := ⟨rfl, rfl⟩
theorem xc83_18 : pmCode 83 18 = some (.iconst 3) ∧ 18 + 1 = 19 := ⟨rfl, rfl⟩
theorem xc83_19 : pmCode 83 19 = some .ishr ∧ 19 + 1 = 20 := ⟨rfl, rfl⟩
theorem xc83_20 : pmCode 83 20 = some (.bipush 7) ∧ 20 + 2 = 22 := ⟨rfl, rfl⟩
theorem xc83_22 : pmCode 83 22 = some .iand ∧ 22 + 1 = 23 := ⟨rfl, rfl⟩
theorem xc83_23 : pmCode 83 23 = some (.goto 7) ∧ ((23 : Nat) : Int) + 7 = ((30 : Nat) : Int) := ⟨rfl, rfl⟩
theorem xc83_26 : pmCode 83 26 = some (.iload_n 0) ∧ 26 + 1 = 27 := ⟨rfl, rfl⟩
theorem xc83_27 : pmCode 83 27 = some (.bipush 7) ∧ 27 + 2 = 29 := ⟨rfl, rfl⟩
theorem xc83_29 : pmCode 83 29 = some .iand ∧ 29 + 1 = 30 := ⟨rfl, rfl⟩
theorem xc83_30 : pmCode 83 30 = some (.iconst 1) ∧ 30 + 1 = 31 := ⟨rfl, rfl⟩
theorem xc83_31 : pmCode 83 31 = some .isub ∧ 31 + 1 = 32 := ⟨rfl, rfl⟩
theorem xc83_32 : pmCode 83 32 = some .ireturn := rfl
theorem xc91_0 : pmCode 91 0 = some (.iload_n 3) ∧ 0 + 1 = 1 := ⟨rfl, rfl⟩
theorem xc91_1 : pmCode 91 1 = some (.bipush 6) ∧ 1 + 2 = 3 := ⟨rfl, rfl⟩
theorem xc91_3 : pmCode 91 3 = some .ishr ∧ 3 + 1 = 4 := ⟨rfl, rfl⟩
theorem xc91_4 : pmCode 91 4 = some (.istore 4) ∧ 4 + 2 = 6 := ⟨rfl, rfl⟩
theorem xc91_6 : pmCode 91 6 = some (.iload 4) ∧ 6 + 2 = 8 := ⟨rfl, rfl⟩
theorem xc91_8 : pmCode 91 8 = some (.ifCond .ne 5) ∧ ((8 : Nat) : Int) + 5 = ((13 : Nat) : Int) ∧ 8 + 3 = 11 := ⟨rfl, rfl, rfl⟩
theorem xc91_11 : pmCode 91 11 = some (.iload_n 3) ∧ 11 + 1 = 12 := ⟨rfl, rfl⟩
theorem xc91_12 : pmCode 91 12 = some .ireturn := rfl
theorem xc91_13 : pmCode 91 13 = some (.aload_n 1) ∧ 13 + 1 = 14 := ⟨rfl, rfl⟩
theorem xc91_14 : pmCode 91 14 = some (.getfield 47) ∧ 14 + 3 = 17 := ⟨rfl, rfl⟩
theorem xc91_17 : pmCode 91 17 = some (.iload_n 2) ∧ 17 + 1 = 18 := ⟨rfl, rfl⟩
theorem xc91_18 : pmCode 91 18 = some (.invokestatic 51) ∧ 18 + 3 = 21 := ⟨rfl, rfl⟩
theorem xc91_21 : pmCode 91 21 = some (.istore 5) ∧ 21 + 2 = 23 := ⟨rfl, rfl⟩
theorem xc91_23 : pmCode 91 23 = some (.aload_n 1) ∧ 23 + 1 = 24 := ⟨rfl, rfl⟩
theorem xc91_24 : pmCode 91 24 = some (.aload_n 0) ∧ 24 + 1 = 25 := ⟨rfl, rfl⟩
theorem xc91_25 : pmCode 91 25 = some (.getfield 15) ∧ 25 + 3 = 28 := ⟨rfl, rfl⟩
theorem xc91_28 : pmCode 91 28 = some (.aload_n 1) ∧ 28 + 1 = 29 := ⟨rfl, rfl⟩
theorem xc91_29 : pmCode 91 29 = some (.getfield 47) ∧ 29 + 3 = 32 := ⟨rfl, rfl⟩
theorem xc91_32 : pmCode 91 32 = some (.iload_n 2) ∧ 32 + 1 = 33 := ⟨rfl, rfl⟩
theorem xc91_33 : pmCode 91 33 = some (.iload_n 3) ∧ 33 + 1 = 34 := ⟨rfl, rfl⟩
theorem xc91_34 : pmCode 91 34 = some (.invokevirtual 74) ∧ 34 + 3 = 37 := ⟨rfl, rfl⟩
theorem xc91_37 : pmCode 91 37 = some (.putfield 47) ∧ 37 + 3 = 40 := ⟨rfl, rfl⟩
theorem xc91_40 : pmCode 91 40 = some (.aload_n 1) ∧ 40 + 1 = 41 := ⟨rfl, rfl⟩
theorem xc91_41 : pmCode 91 41 = some (.getfield 47) ∧ 41 + 3 = 44 := ⟨rfl, rfl⟩
theorem xc91_44 : pmCode 91 44 = some (.iload_n 2) ∧ 44 + 1 = 45 := ⟨rfl, rfl⟩
theorem xc91_45 : pmCode 91 45 = some (.invokestatic 51) ∧ 45 + 3 = 48 := ⟨rfl, rfl⟩
theorem xc91_48 : pmCode 91 48 = some (.istore 6) ∧ 48 + 2 = 50 := ⟨rfl, rfl⟩
theorem xc91_50 : pmCode 91 50 = some (.iconst 0) ∧ 50 + 1 = 51 := ⟨rfl, rfl⟩
theorem xc91_51 : pmCode 91 51 = some (.istore 7) ∧ 51 + 2 = 53 := ⟨rfl, rfl⟩
theorem xc91_53 : pmCode 91 53 = some (.iconst 0) ∧ 53 + 1 = 54 := ⟨rfl, rfl⟩
theorem xc91_54 : pmCode 91 54 = some (.istore 8) ∧ 54 + 2 = 56 := ⟨rfl, rfl⟩
theorem xc91_56 : pmCode 91 56 = some (.iload 8) ∧ 56 + 2 = 58 := ⟨rfl, rfl⟩
theorem xc91_58 : pmCode 91 58 = some (.iconst 4) ∧ 58 + 1 = 59 := ⟨rfl, rfl⟩
theorem xc91_59 : pmCode 91 59 = some (.if_icmp .ge 95) ∧ ((59 : Nat) : Int) + 95 = ((154 : Nat) : Int) ∧ 59 + 3 = 62 := ⟨rfl, rfl, rfl⟩
theorem xc91_62 : pmCode 91 62 = some (.aload_n 1) ∧ 62 + 1 = 63 := ⟨rfl, rfl⟩
theorem xc91_63 : pmCode 91 63 = some (.getfield 47) ∧ 63 + 3 = 66 := ⟨rfl, rfl⟩
theorem xc91_66 : pmCode 91 66 = some (.iload 8) ∧ 66 + 2 = 68 := ⟨rfl, rfl⟩
theorem xc91_68 : pmCode 91 68 = some (.invokestatic 51) ∧ 68 + 3 = 71 := ⟨rfl, rfl⟩
theorem xc91_71 : pmCode 91 71 = some (.istore 9) ∧ 71 + 2 = 73 := ⟨rfl, rfl⟩
theorem xc91_73 : pmCode 91 73 = some (.iload 7) ∧ 73 + 2 = 75 := ⟨rfl, rfl⟩
theorem xc91_75 : pmCode 91 75 = some (.iload 8) ∧ 75 + 2 = 77 := ⟨rfl, rfl⟩
theorem xc91_77 : pmCode 91 77 = some (.iload_n 2) ∧ 77 + 1 = 78 := ⟨rfl, rfl⟩
theorem xc91_78 : pmCode 91 78 = some (.if_icmp .eq 24) ∧ ((78 : Nat) : Int) + 24 = ((102 : Nat) : Int) ∧ 78 + 3 = 81 := ⟨rfl, rfl, rfl⟩
theorem xc91_81 : pmCode 91 81 = some (.iload 9) ∧ 81 + 2 = 83 := ⟨rfl, rfl⟩
theorem xc91_83 : pmCode 91 83 = some (.iload 5) ∧ 83 + 2 = 85 := ⟨rfl, rfl⟩
theorem xc91_85 : pmCode 91 85 = some (.if_icmp .eq 10) ∧ ((85 : Nat) : Int) + 10 = ((95 : Nat) : Int) ∧ 85 + 3 = 88 := ⟨rfl, rfl, rfl⟩
theorem xc91_88 : pmCode 91 88 = some (.iload 9) ∧ 88 + 2 = 90 := ⟨rfl, rfl⟩
theorem xc91_90 : pmCode 91 90 = some (.iload 6) ∧ 90 + 2 = 92 := ⟨rfl, rfl⟩
theorem xc91_92 : pmCode 91 92 = some (.if_icmp .ne 10) ∧ ((92 : Nat) : Int) + 10 = ((102 : Nat) : Int) ∧ 92 + 3 = 95 := ⟨rfl, rfl, rfl⟩
theorem xc91_95 : pmCode 91 95 = some (.iconst 1) ∧ 95 + 1 = 96 := ⟨rfl, rfl⟩
theorem xc91_96 : pmCode 91 96 = some (.iload 8) ∧ 96 + 2 = 98 := ⟨rfl, rfl⟩
theorem xc91_98 : pmCode 91 98 = some .ishl ∧ 98 + 1 = 99 := ⟨rfl, rfl⟩
theorem xc91_99 : pmCode 91 99 = some (.goto 4) ∧ ((99 : Nat) : Int) + 4 = ((103 : Nat) : Int) := ⟨rfl, rfl⟩
theorem xc91_102 : pmCode 91 102 = some (.iconst 0) ∧ 102 + 1 = 103 := ⟨rfl, rfl⟩
theorem xc91_103 : pmCode 91 103 = some .ior ∧ 103 + 1 = 104 := ⟨rfl, rfl⟩
theorem xc91_104 : pmCode 91 104 = some (.istore 7) ∧ 104 + 2 = 106 := ⟨rfl, rfl⟩
theorem xc91_106 : pmCode 91 106 = some (.iload 4) ∧ 106 + 2 = 108 := ⟨rfl, rfl⟩
theorem xc91_108 : pmCode 91 108 = some (.iconst 5) ∧ 108 + 1 = 109 := ⟨rfl, rfl⟩
theorem xc91_109 : pmCode 91 109 = some (.if_icmp .ne 39) ∧ ((109 : Nat) : Int) + 39 = ((148 : Nat) : Int) ∧ 109 + 3 = 112 := ⟨rfl, rfl, rfl⟩
theorem xc91_112 : pmCode 91 112 = some (.iload 8) ∧ 112 + 2 = 114 := ⟨rfl, rfl⟩
theorem xc91_114 : pmCode 91 114 = some (.ifCond .eq 34) ∧ ((114 : Nat) : Int) + 34 = ((148 : Nat) : Int) ∧ 114 + 3 = 117 := ⟨rfl, rfl, rfl⟩
theorem xc91_117 : pmCode 91 117 = some (.iload 9) ∧ 117 + 2 = 119 := ⟨rfl, rfl⟩
theorem xc91_119 : pmCode 91 119 = some (.iload 5) ∧ 119 + 2 = 121 := ⟨rfl, rfl⟩
theorem xc91_121 : pmCode 91 121 = some (.if_icmp .ne 27) ∧ ((121 : Nat) : Int) + 27 = ((148 : Nat) : Int) ∧ 121 + 3 = 124 := ⟨rfl, rfl, rfl⟩
theorem xc91_124 : pmCode 91 124 = some (.aload_n 1) ∧ 124 + 1 = 125 := ⟨rfl, rfl⟩
theorem xc91_125 : pmCode 91 125 = some (.getfield 59) ∧ 125 + 3 = 128 := ⟨rfl, rfl⟩
theorem xc91_128 : pmCode 91 128 = some (.iload 8) ∧ 128 + 2 = 130 := ⟨rfl, rfl⟩
theorem xc91_130 : pmCode 91 130 = some (.aload_n 1) ∧ 130 + 1 = 131 := ⟨rfl, rfl⟩
theorem xc91_131 : pmCode 91 131 = some (.getfield 59) ∧ 131 + 3 = 134 := ⟨rfl, rfl⟩
theorem xc91_134 : pmCode 91 134 = some (.iload 8) ∧ 134 + 2 = 136 := ⟨rfl, rfl⟩
theorem xc91_136 : pmCode 91 136 = some .laload ∧ 136 + 1 = 137 := ⟨rfl, rfl⟩
theorem xc91_137 : pmCode 91 137 = some (.iload_n 3) ∧ 137 + 1 = 138 := ⟨rfl, rfl⟩
theorem xc91_138 : pmCode 91 138 = some (.iconst 1) ∧ 138 + 1 = 139 := ⟨rfl, rfl⟩
theorem xc91_139 : pmCode 91 139 = some (.invokestatic 80) ∧ 139 + 3 = 142 := ⟨rfl, rfl⟩
theorem xc91_142 : pmCode 91 142 = some (.bipush 8) ∧ 142 + 2 = 144 := ⟨rfl, rfl⟩
theorem xc91_144 : pmCode 91 144 = some (.invokestatic 84) ∧ 144 + 3 = 147 := ⟨rfl, rfl⟩
theorem xc91_147 : pmCode 91 147 = some .lastore ∧ 147 + 1 = 148 := ⟨rfl, rfl⟩
theorem xc91_148 : pmCode 91 148 = some (.iinc 8 1) ∧ 148 + 3 = 151 := ⟨rfl, rfl⟩
theorem xc91_151 : pmCode 91 151 = some (.goto (-95)) ∧ ((151 : Nat) : Int) + (-95) = ((56 : Nat) : Int) := ⟨rfl, rfl⟩
theorem xc91_154 : pmCode 91 154 = some (.iload 4) ∧ 154 + 2 = 156 := ⟨rfl, rfl⟩
theorem xc91_156 : pmCode 91 156 = some (.bipush 6) ∧ 156 + 2 = 158 := ⟨rfl, rfl⟩
theorem xc91_158 : pmCode 91 158 = some (.if_icmp .ne 17) ∧ ((158 : Nat) : Int) + 17 = ((175 : Nat) : Int) ∧ 158 + 3 = 161 := ⟨rfl, rfl, rfl⟩
theorem xc91_161 : pmCode 91 161 = some (.aload_n 1) ∧ 161 + 1 = 162 := ⟨rfl, rfl⟩
theorem xc91_162 : pmCode 91 162 = some (.iload_n 3) ∧ 162 + 1 = 163 := ⟨rfl, rfl⟩
theorem xc91_163 : pmCode 91 163 = some (.iconst 1) ∧ 163 + 1 = 164 := ⟨rfl, rfl⟩
theorem xc91_164 : pmCode 91 164 = some (.invokestatic 80) ∧ 164 + 3 = 167 := ⟨rfl, rfl⟩
theorem xc91_167 : pmCode 91 167 = some (.iload_n 3) ∧ 167 + 1 = 168 := ⟨rfl, rfl⟩
theorem xc91_168 : pmCode 91 168 = some (.iconst 2) ∧ 168 + 1 = 169 := ⟨rfl, rfl⟩
theorem xc91_169 : pmCode 91 169 = some (.invokestatic 80) ∧ 169 + 3 = 172 := ⟨rfl, rfl⟩
theorem xc91_172 : pmCode 91 172 = some (.invokestatic 87) ∧ 172 + 3 = 175 := ⟨rfl, rfl⟩
theorem xc91_175 : pmCode 91 175 = some (.aload_n 1) ∧ 175 + 1 = 176 := ⟨rfl, rfl⟩
theorem xc91_176 : pmCode 91 176 = some .dup ∧ 176 + 1 = 177 := ⟨rfl, rfl⟩
theorem xc91_177 : pmCode 91 177 = some (.getfield 91) ∧ 177 + 3 = 180 := ⟨rfl, rfl⟩
theorem xc91_180 : pmCode 91 180 = some (.iconst 1) ∧ 180 + 1 = 181 := ⟨rfl, rfl⟩
theorem xc91_181 : pmCode 91 181 = some .iadd ∧ 181 + 1 = 182 := ⟨rfl, rfl⟩
theorem xc91_182 : pmCode 91 182 = some (.putfield 91) ∧ 182 + 3 = 185 := ⟨rfl, rfl⟩
theorem xc91_185 : pmCode 91 185 = some (.aload_n 0) ∧ 185 + 1 = 186 := ⟨rfl, rfl⟩
theorem xc91_186 : pmCode 91 186 = some (.getfield 19) ∧ 186 + 3 = 189 := ⟨rfl, rfl⟩
theorem xc91_189 : pmCode 91 189 = some (.aload_n 1) ∧ 189 + 1 = 190 := ⟨rfl, rfl⟩
theorem xc91_190 : pmCode 91 190 = some (.iload_n 2) ∧ 190 + 1 = 191 := ⟨rfl, rfl⟩
theorem xc91_191 : pmCode 91 191 = some (.iload_n 3) ∧ 191 + 1 = 192 := ⟨rfl, rfl⟩
theorem xc91_192 : pmCode 91 192 = some (.iload 7) ∧ 192 + 2 = 194 := ⟨rfl, rfl⟩
theorem xc91_194 : pmCode 91 194 = some (.ifCond .ne 7) ∧ ((194 : Nat) : Int) + 7 = ((201 : Nat) : Int) ∧ 194 + 3 = 197 := ⟨rfl, rfl, rfl⟩
theorem xc91_197 : pmCode 91 197 = some (.iconst 1) ∧ 197 + 1 = 198 := ⟨rfl, rfl⟩
theorem xc91_198 : pmCode 91 198 = some (.goto 4) ∧ ((198 : Nat) : Int) + 4 = ((202 : Nat) : Int) := ⟨rfl, rfl⟩
theorem xc91_201 : pmCode 91 201 = some (.iconst 0) ∧ 201 + 1 = 202 := ⟨rfl, rfl⟩
theorem xc91_202 : pmCode 91 202 = some (.invokestatic 94) ∧ 202 + 3 = 205 := ⟨rfl, rfl⟩
theorem xc91_205 : pmCode 91 205 = some (.invokevirtual 98) ∧ 205 + 3 = 208 := ⟨rfl, rfl⟩
theorem xc91_208 : pmCode 91 208 = some (.aload_n 0) ∧ 208 + 1 = 209 := ⟨rfl, rfl⟩
theorem xc91_209 : pmCode 91 209 = some (.aload_n 1) ∧ 209 + 1 = 210 := ⟨rfl, rfl⟩
theorem xc91_210 : pmCode 91 210 = some (.invokevirtual 101) ∧ 210 + 3 = 213 := ⟨rfl, rfl⟩
theorem xc91_213 : pmCode 91 213 = some (.iload_n 3) ∧ 213 + 1 = 214 := ⟨rfl, rfl⟩
theorem xc91_214 : pmCode 91 214 = some (.iload 7) ∧ 214 + 2 = 216 := ⟨rfl, rfl⟩
theorem xc91_216 : pmCode 91 216 = some (.bipush 9) ∧ 216 + 2 = 218 := ⟨rfl, rfl⟩
theorem xc91_218 : pmCode 91 218 = some .ishl ∧ 218 + 1 = 219 := ⟨rfl, rfl⟩
theorem xc91_219 : pmCode 91 219 = some .ior ∧ 219 + 1 = 220 := ⟨rfl, rfl⟩
theorem xc91_220 : pmCode 91 220 = some .ireturn := rfl
/-- an event as a number -/
def uEo (p k z : Int) : Int := xOr (xOr (xOr (xOr ((k / 64) % 8) (p * 8)) (((k / 8) % 8) * 64)) ((k % 8) * 512)) (if z = 0 then 0 else 4096)
theorem rk93 {ro : Nat → Nat × (Nat → Int32)} {d : Nat} {Q : Option Value → pmS → Prop} {p k z : Int} {a : xA} {b : xB} (hd : 1 ≤ d) (hp : 0 ≤ p ∧ p ≤ 3) (hk : 0 ≤ k ∧ k ≤ 511) (hz : z = 0 ∨ z = 1) (hQ : Q (some (xV (uEo p k z))) (xS a b)) : pmCs ro d 93 [xV p, xV k, xV z] (xS a b) Q := by
  refine pmCs_deep (d := 1) (xg93 (w93 hp hk hz (fun e => ?_) (fun e => ?_))) hd
  · unfold uEo at hQ
    rw [if_pos e] at hQ
    exact hQ
  · unfold uEo at hQ
    rw [if_neg e] at hQ
    exact hQ
theorem uEo_b {p k z : Int} : xR (uEo p k z) := xRb (xOrB _ _)
theorem w83 {ro : Nat → Nat × (Nat → Int32)} {d : Nat} {Q : Option Value → pmS → Prop} {e pt : Int} {a : xA} {b : xB} (he : 0 ≤ e ∧ e ≤ 1000000) (hpt : 0 ≤ pt ∧ pt ≤ 2)
    (k1 : (¬ pt = 0) → (¬ pt = 1) → Q (some (xV (e % 8 - 1))) (xS a b))
    (k2 : (¬ pt = 0) → (pt = 1) → Q (some (xV ((e / 8) % 8 - 1))) (xS a b))
    (k3 : (pt = 0) → Q (some (xV ((e / 64) % 8))) (xS a b)) :
    pmWp ro d 11 83 1 0 [some (xV e), some (xV pt)] [] (xS a b) Q := by
  refine x_iloadn xc83_0 rfl ?_
  refine x_ifne xc83_1 (xRk (by have g0 := hpt; omega)) (fun h0 => ?_) (fun h0 => ?_)
  · refine x_iloadn xc83_12 rfl ?_
    refine x_iconst xc83_13 ?_
    refine x_icne xc83_14 (xRk (by have g0 := hpt; omega)) (xRk (by decide)) (fun h1 => ?_) (fun h1 => ?_)
    · refine x_iloadn xc83_26 rfl ?_
      refine x_bipush xc83_27 (by decide) ?_
      refine x_iandm (M := 8) 3 (by decide) (by decide) (by decide) xc83_29 ?_
      refine x_iconst xc83_30 ?_
      refine x_isub xc83_31 ?_
      refine x_iret xc83_32 (Or.inl rfl) ?_
      exact k1 h0 h1
    · replace h1 := Classical.not_not.mp h1
      refine x_iloadn xc83_17 rfl ?_
      refine x_iconst xc83_18 ?_
      refine x_ishr (M := 8) (by omega) (by omega) (by decide) (xRk (by have g0 := he; omega)) xc83_19 ?_
      refine x_bipush xc83_20 (by decide) ?_
      refine x_iandm (M := 8) 3 (by decide) (by decide) (by decide) xc83_22 ?_
      refine x_goto xc83_23 ?_
      refine x_iconst xc83_30 ?_
      refine x_isub xc83_31 ?_
      refine x_iret xc83_32 (Or.inl rfl) ?_
      exact k2 h0 h1
  · replace h0 := Classical.not_not.mp h0
    refine x_iloadn xc83_4 rfl ?_
    refine x_bipush xc83_5 (by decide) ?_
    refine x_ishr (M := 64) (by omega) (by omega) (by decide) (xRk (by have g0 := he; omega)) xc83_7 ?_
    refine x_bipush xc83_8 (by decide) ?_
    refine x_iandm (M := 8) 3 (by decide) (by decide) (by decide) xc83_10 ?_
    refine x_iret xc83_11 (Or.inl rfl) ?_
    exact k3 h0

theorem xg83 {ro : Nat → Nat × (Nat → Int32)} {d : Nat} {Q : Option Value → pmS → Prop} {a : xA} {b : xB} {e pt : Int} (h : pmWp ro d 11 83 1 0 [some (xV e), some (xV pt)] [] (xS a b) Q) : pmCs ro (d + 1) 83 [xV e, xV pt] (xS a b) Q := x_go xi83 rfl rfl rfl rfl rfl h
/-- part of a deed -/
def uPrt (e pt : Int) : Int := if pt = 0 then e / 64 % 8 else if pt = 1 then e / 8 % 8 - 1 else e % 8 - 1
theorem rk83 {ro : Nat → Nat × (Nat → Int32)} {d : Nat} {Q : Option Value → pmS → Prop} {e pt : Int} {a : xA} {b : xB} (hd : 1 ≤ d) (he : 0 ≤ e ∧ e ≤ 1000000) (hpt : 0 ≤ pt ∧ pt ≤ 2) (hQ : Q (some (xV (uPrt e pt))) (xS a b)) : pmCs ro d 83 [xV e, xV pt] (xS a b) Q := by
  unfold uPrt at hQ
  refine pmCs_deep (d := 1) (xg83 (w83 he hpt ?_ ?_ ?_)) hd <;> intros
  all_goals (simp_all)
theorem rk83a {ro : Nat → Nat × (Nat → Int32)} {d : Nat} {Q : Option Value → pmS → Prop} {e : Int} {a : xA} {b : xB} (hd : 1 ≤ d) (he : 0 ≤ e ∧ e ≤ 1000000) (hQ : Q (some (xV (e / 8 % 8 - 1))) (xS a b)) : pmCs ro d 83 [xV e, xV 1] (xS a b) Q := rk83 hd he (by decide) hQ
theorem rk83b {ro : Nat → Nat × (Nat → Int32)} {d : Nat} {Q : Option Value → pmS → Prop} {e : Int} {a : xA} {b : xB} (hd : 1 ≤ d) (he : 0 ≤ e ∧ e ≤ 1000000) (hQ : Q (some (xV (e % 8 - 1))) (xS a b)) : pmCs ro d 83 [xV e, xV 2] (xS a b) Q := rk83 hd he (by decide) hQ
theorem w91 {ro : Nat → Nat × (Nat → Int32)} {d : Nat} {Q : Option Value → pmS → Prop} {p dd : Int} {w : Nat} {a : xA} {b : xB} (hz : uWz w) (hp : 0 ≤ p ∧ p ≤ 3) (hdd : 0 ≤ dd ∧ dd ≤ 447) (hdx : 1 ≤ dd / 8 % 8) (hd : 1 ≤ d)
    (k1 : (¬ dd / 64 = 0) → pmCs ro d 81 [.ref 3, .long (b w 4), xV p, xV dd] (xS a b) fun r σ' => pmWp ro d 4 91 1 37 [some (.ref 43), some (.ref w), some (xV p), some (xV dd), some (xV (dd / 64)), some (xV (uSl (b w 4) p)), none, none, none, none] (r.toList ++ [.ref w]) σ' Q)
    (k2 : (dd / 64 = 0) → Q (some (xV dd)) (xS a b)) :
    pmWp ro d 4 91 1 0 [some (.ref 43), some (.ref w), some (xV p), some (xV dd), none, none, none, none, none, none] [] (xS a b) Q := by
  refine x_iloadn xc91_0 rfl ?_
  refine x_bipush xc91_1 (by decide) ?_
  refine x_ishr (M := 64) (by omega) (by omega) (by decide) (xRk (by have g0 := hdd; omega)) xc91_3 ?_
  refine x_istore (pl' := [some (.ref 43), some (.ref w), some (xV p), some (xV dd), some (xV (dd / 64)), none, none, none, none, none]) xc91_4 rfl rfl ?_
  refine x_iload xc91_6 rfl ?_
  refine x_ifne xc91_8 (xRk (by have g0 := hdd; omega)) (fun h0 => ?_) (fun h0 => ?_)
  · refine x_aloadn xc91_13 rfl ?_
    refine x_gfl (k := 4) xc91_14 rfl rfl rfl hz.1 ?_
    refine x_iloadn xc91_17 rfl ?_
    refine x_cS (as := [.long (b w 4), xV p]) (rest := []) xc91_18 rfl rfl xi61 ⟨rfl, rfl⟩ rfl rfl ?_
    refine rk61 (by omega) (by have g0 := hp; omega) ?_
    refine x_istore (pl' := [some (.ref 43), some (.ref w), some (xV p), some (xV dd), some (xV (dd / 64)), some (xV (uSl (b w 4) p)), none, none, none, none]) xc91_21 rfl rfl ?_
    refine x_aloadn xc91_23 rfl ?_
    refine x_aloadn xc91_24 rfl ?_
    refine x_gfr xc91_25 rfl rfl xz43 rfl ?_
    refine x_aloadn xc91_28 rfl ?_
    refine x_gfl (k := 4) xc91_29 rfl rfl rfl hz.1 ?_
    refine x_iloadn xc91_32 rfl ?_
    refine x_iloadn xc91_33 rfl ?_
    refine x_cV (as := [.long (b w 4), xV p, xV dd]) (rest := [.ref w]) xc91_34 rfl xi81 xz3 ⟨rfl, rfl⟩ rfl rfl ?_
    exact k1 h0
  · replace h0 := Classical.not_not.mp h0
    refine x_iloadn xc91_11 rfl ?_
    refine x_iret xc91_12 (Or.inl rfl) ?_
    exact k2 h0

theorem xg91 {ro : Nat → Nat × (Nat → Int32)} {d : Nat} {Q : Option Value → pmS → Prop} {a : xA} {b : xB} {p dd : Int} {w : Nat} (h : pmWp ro d 4 91 1 0 [some (.ref 43), some (.ref w), some (xV p), some (xV dd), none, none, none, none, none, none] [] (xS a b) Q) : pmCs ro (d + 1) 91 [.ref 43, .ref w, xV p, xV dd] (xS a b) Q := x_go xi91 rfl rfl rfl rfl rfl h
theorem w91z {ro : Nat → Nat × (Nat → Int32)} {d : Nat} {Q : Option Value → pmS → Prop} {p dd : Int} {w : Nat} {a : xA} {b : xB} (hz : uWz w) (hp : 0 ≤ p ∧ p ≤ 3) (hd0 : dd = 0) (hd : 1 ≤ d)
    (k1 : (¬ dd / 64 = 0) → pmCs ro d 81 [.ref 3, .long (b w 4), xV p, xV dd] (xS a b) fun r σ' => pmWp ro d 4 91 1 37 [some (.ref 43), some (.ref w), some (xV p), some (xV dd), some (xV (dd / 64)), some (xV (uSl (b w 4) p)), none, none, none, none] (r.toList ++ [.ref w]) σ' Q)
    (k2 : (dd / 64 = 0) → Q (some (xV dd)) (xS a b)) :
    pmWp ro d 4 91 1 0 [some (.ref 43), some (.ref w), some (xV p), some (xV dd), none, none, none, none, none, none] [] (xS a b) Q := by
  refine x_iloadn xc91_0 rfl ?_
  refine x_bipush xc91_1 (by decide) ?_
  refine x_ishr (M := 64) (by omega) (by omega) (by decide) (xRk (by have g0 := hd0; omega)) xc91_3 ?_
  refine x_istore (pl' := [some (.ref 43), some (.ref w), some (xV p), some (xV dd), some (xV (dd / 64)), none, none, none, none, none]) xc91_4 rfl rfl ?_
  refine x_iload xc91_6 rfl ?_
  refine x_ifne xc91_8 (xRk (by have g0 := hd0; omega)) (fun h0 => ?_) (fun h0 => ?_)
  · refine x_aloadn xc91_13 rfl ?_
    refine x_gfl (k := 4) xc91_14 rfl rfl rfl hz.1 ?_
    refine x_iloadn xc91_17 rfl ?_
    refine x_cS (as := [.long (b w 4), xV p]) (rest := []) xc91_18 rfl rfl xi61 ⟨rfl, rfl⟩ rfl rfl ?_
    refine rk61 (by omega) (by have g0 := hp; omega) ?_
    refine x_istore (pl' := [some (.ref 43), some (.ref w), some (xV p), some (xV dd), some (xV (dd / 64)), some (xV (uSl (b w 4) p)), none, none, none, none]) xc91_21 rfl rfl ?_
    refine x_aloadn xc91_23 rfl ?_
    refine x_aloadn xc91_24 rfl ?_
    refine x_gfr xc91_25 rfl rfl xz43 rfl ?_
    refine x_aloadn xc91_28 rfl ?_
    refine x_gfl (k := 4) xc91_29 rfl rfl rfl hz.1 ?_
    refine x_iloadn xc91_32 rfl ?_
    refine x_iloadn xc91_33 rfl ?_
    refine x_cV (as := [.long (b w 4), xV p, xV dd]) (rest := [.ref w]) xc91_34 rfl xi81 xz3 ⟨rfl, rfl⟩ rfl rfl ?_
    exact k1 h0
  · replace h0 := Classical.not_not.mp h0
    refine x_iloadn xc91_11 rfl ?_
    refine x_iret xc91_12 (Or.inl rfl) ?_
    exact k2 h0

theorem w91a {ro : Nat → Nat × (Nat → Int32)} {d : Nat} {Q : Option Value → pmS → Prop} {kk le p dd : Int} {w : Nat} {l : Int64} {a : xA} {b : xB} (hz : uWz w) (hp : 0 ≤ p ∧ p ≤ 3) (hdd : 0 ≤ dd ∧ dd ≤ 447) (hdx : 1 ≤ dd / 8 % 8) (hd : 1 ≤ d)
    (k1 : pmWp ro d 4 91 1 56 [some (.ref 43), some (.ref w), some (xV p), some (xV dd), some (xV kk), some (xV le), some (xV (uSl l p)), some (xV 0), some (xV 0), none] [] (xS a (xU b w 4 l)) Q) :
    pmWp ro d 4 91 1 37 [some (.ref 43), some (.ref w), some (xV p), some (xV dd), some (xV kk), some (xV le), none, none, none, none] [.long l, .ref w] (xS a b) Q := by
  refine x_pfl (k := 4) xc91_37 rfl ⟨rfl, rfl⟩ rfl hz.1 ?_
  refine x_aloadn xc91_40 rfl ?_
  refine x_gfl' (k := 4) (v := l) xc91_41 rfl rfl rfl hz.1 (by rw [xUa]) ?_
  refine x_iloadn xc91_44 rfl ?_
  refine x_cS (as := [.long l, xV p]) (rest := []) xc91_45 rfl rfl xi61 ⟨rfl, rfl⟩ rfl rfl ?_
  refine rk61 (by omega) (by have g0 := hp; omega) ?_
  refine x_istore (pl' := [some (.ref 43), some (.ref w), some (xV p), some (xV dd), some (xV kk), some (xV le), some (xV (uSl l p)), none, none, none]) xc91_48 rfl rfl ?_
  refine x_iconst xc91_50 ?_
  refine x_istore (pl' := [some (.ref 43), some (.ref w), some (xV p), some (xV dd), some (xV kk), some (xV le), some (xV (uSl l p)), some (xV 0), none, none]) xc91_51 rfl rfl ?_
  refine x_iconst xc91_53 ?_
  refine x_istore (pl' := [some (.ref 43), some (.ref w), some (xV p), some (xV dd), some (xV kk), some (xV le), some (xV (uSl l p)), some (xV 0), some (xV 0), none]) xc91_54 rfl rfl ?_
  exact k1

theorem w91q {ro : Nat → Nat × (Nat → Int32)} {d : Nat} {Q : Option Value → pmS → Prop} {v9 : Option Value} {kk le co sn q p dd : Int} {w : Nat} {a : xA} {b : xB} (hz : uWz w) (hp : 0 ≤ p ∧ p ≤ 3) (hdd : 0 ≤ dd ∧ dd ≤ 447) (hdx : 1 ≤ dd / 8 % 8) (hkk : 0 ≤ kk ∧ kk ≤ 7) (hle : 0 ≤ le ∧ le ≤ 15) (hco : 0 ≤ co ∧ co ≤ 15) (hsn : 0 ≤ sn ∧ sn ≤ 15) (hq : 0 ≤ q ∧ q ≤ 4) (hd : 1 ≤ d)
    (k1 : (4 ≤ q) → pmWp ro d 4 91 1 154 [some (.ref 43), some (.ref w), some (xV p), some (xV dd), some (xV kk), some (xV le), some (xV co), some (xV sn), some (xV q), v9] [] (xS a b) Q)
    (k2 : (¬ 4 ≤ q) → (q = p) → (¬ kk = 5) → pmWp ro d 4 91 1 148 [some (.ref 43), some (.ref w), some (xV p), some (xV dd), some (xV kk), some (xV le), some (xV co), some (xV (xOr sn 0)), some (xV q), some (xV (uSl (b w 4) q))] [] (xS a b) Q)
    (k3 : (¬ 4 ≤ q) → (q = p) → (kk = 5) → (q = 0) → pmWp ro d 4 91 1 148 [some (.ref 43), some (.ref w), some (xV p), some (xV dd), some (xV kk), some (xV le), some (xV co), some (xV (xOr sn 0)), some (xV q), some (xV (uSl (b w 4) q))] [] (xS a b) Q)
    (k4 : (¬ 4 ≤ q) → (q = p) → (kk = 5) → (¬ q = 0) → (¬ uSl (b w 4) q = le) → pmWp ro d 4 91 1 148 [some (.ref 43), some (.ref w), some (xV p), some (xV dd), some (xV kk), some (xV le), some (xV co), some (xV (xOr sn 0)), some (xV q), some (xV (uSl (b w 4) q))] [] (xS a b) Q)
    (k5 : (¬ 4 ≤ q) → (q = p) → (kk = 5) → (¬ q = 0) → (uSl (b w 4) q = le) → pmWp ro d 4 91 1 148 [some (.ref 43), some (.ref w), some (xV p), some (xV dd), some (xV kk), some (xV le), some (xV co), some (xV (xOr sn 0)), some (xV q), some (xV (uSl (b w 4) q))] [] (xS a (xU b (w + 1) q (xWith (b (w + 1) q) (dd / 8 % 8 - 1) 8))) Q)
    (k6 : (¬ 4 ≤ q) → (¬ q = p) → (uSl (b w 4) q = le) → (¬ kk = 5) → pmWp ro d 4 91 1 148 [some (.ref 43), some (.ref w), some (xV p), some (xV dd), some (xV kk), some (xV le), some (xV co), some (xV (xOr sn (1 * ((2 ^ q.toNat : Nat) : Int)))), some (xV q), some (xV (uSl (b w 4) q))] [] (xS a b) Q)
    (k7 : (¬ 4 ≤ q) → (¬ q = p) → (uSl (b w 4) q = le) → (kk = 5) → (q = 0) → pmWp ro d 4 91 1 148 [some (.ref 43), some (.ref w), some (xV p), some (xV dd), some (xV kk), some (xV le), some (xV co), some (xV (xOr sn (1 * ((2 ^ q.toNat : Nat) : Int)))), some (xV q), some (xV (uSl (b w 4) q))] [] (xS a b) Q)
    (k8 : (¬ 4 ≤ q) → (¬ q = p) → (uSl (b w 4) q = le) → (kk = 5) → (¬ q = 0) → pmWp ro d 4 91 1 148 [some (.ref 43), some (.ref w), some (xV p), some (xV dd), some (xV kk), some (xV le), some (xV co), some (xV (xOr sn (1 * ((2 ^ q.toNat : Nat) : Int)))), some (xV q), some (xV (uSl (b w 4) q))] [] (xS a (xU b (w + 1) q (xWith (b (w + 1) q) (dd / 8 % 8 - 1) 8))) Q)
    (k9 : (¬ 4 ≤ q) → (¬ q = p) → (¬ uSl (b w 4) q = le) → (¬ uSl (b w 4) q = co) → (¬ kk = 5) → pmWp ro d 4 91 1 148 [some (.ref 43), some (.ref w), some (xV p), some (xV dd), some (xV kk), some (xV le), some (xV co), some (xV (xOr sn 0)), some (xV q), some (xV (uSl (b w 4) q))] [] (xS a b) Q)
    (k10 : (¬ 4 ≤ q) → (¬ q = p) → (¬ uSl (b w 4) q = le) → (¬ uSl (b w 4) q = co) → (kk = 5) → (q = 0) → pmWp ro d 4 91 1 148 [some (.ref 43), some (.ref w), some (xV p), some (xV dd), some (xV kk), some (xV le), some (xV co), some (xV (xOr sn 0)), some (xV q), some (xV (uSl (b w 4) q))] [] (xS a b) Q)
    (k11 : (¬ 4 ≤ q) → (¬ q = p) → (¬ uSl (b w 4) q = le) → (¬ uSl (b w 4) q = co) → (kk = 5) → (¬ q = 0) → pmWp ro d 4 91 1 148 [some (.ref 43), some (.ref w), some (xV p), some (xV dd), some (xV kk), some (xV le), some (xV co), some (xV (xOr sn 0)), some (xV q), some (xV (uSl (b w 4) q))] [] (xS a b) Q)
    (k12 : (¬ 4 ≤ q) → (¬ q = p) → (¬ uSl (b w 4) q = le) → (uSl (b w 4) q = co) → (¬ kk = 5) → pmWp ro d 4 91 1 148 [some (.ref 43), some (.ref w), some (xV p), some (xV dd), some (xV kk), some (xV le), some (xV co), some (xV (xOr sn (1 * ((2 ^ q.toNat : Nat) : Int)))), some (xV q), some (xV (uSl (b w 4) q))] [] (xS a b) Q)
    (k13 : (¬ 4 ≤ q) → (¬ q = p) → (¬ uSl (b w 4) q = le) → (uSl (b w 4) q = co) → (kk = 5) → (q = 0) → pmWp ro d 4 91 1 148 [some (.ref 43), some (.ref w), some (xV p), some (xV dd), some (xV kk), some (xV le), some (xV co), some (xV (xOr sn (1 * ((2 ^ q.toNat : Nat) : Int)))), some (xV q), some (xV (uSl (b w 4) q))] [] (xS a b) Q)
    (k14 : (¬ 4 ≤ q) → (¬ q = p) → (¬ uSl (b w 4) q = le) → (uSl (b w 4) q = co) → (kk = 5) → (¬ q = 0) → pmWp ro d 4 91 1 148 [some (.ref 43), some (.ref w), some (xV p), some (xV dd), some (xV kk), some (xV le), some (xV co), some (xV (xOr sn (1 * ((2 ^ q.toNat : Nat) : Int)))), some (xV q), some (xV (uSl (b w 4) q))] [] (xS a b) Q) :
    pmWp ro d 4 91 1 56 [some (.ref 43), some (.ref w), some (xV p), some (xV dd), some (xV kk), some (xV le), some (xV co), some (xV sn), some (xV q), v9] [] (xS a b) Q := by
  refine x_iload xc91_56 rfl ?_
  refine x_iconst xc91_58 ?_
  refine x_icge xc91_59 (xRk (by have g0 := hq; omega)) (xRk (by decide)) (fun h0 => ?_) (fun h0 => ?_)
  · exact k1 h0
  · refine x_aloadn xc91_62 rfl ?_
    refine x_gfl (k := 4) xc91_63 rfl rfl rfl hz.1 ?_
    refine x_iload xc91_66 rfl ?_
    refine x_cS (as := [.long (b w 4), xV q]) (rest := []) xc91_68 rfl rfl xi61 ⟨rfl, rfl⟩ rfl rfl ?_
    refine rk61 (by omega) (by have g0 := hq; omega) ?_
    refine x_istore (pl' := [some (.ref 43), some (.ref w), some (xV p), some (xV dd), some (xV kk), some (xV le), some (xV co), some (xV sn), some (xV q), some (xV (uSl (b w 4) q))]) xc91_71 rfl rfl ?_
    refine x_iload xc91_73 rfl ?_
    refine x_iload xc91_75 rfl ?_
    refine x_iloadn xc91_77 rfl ?_
    refine x_iceq xc91_78 (xRk (by have g0 := hq; omega)) (xRk (by have g0 := hp; omega)) (fun h1 => ?_) (fun h1 => ?_)
    · refine x_iconst xc91_102 ?_
      refine x_ior xc91_103 ?_
      refine x_istore (pl' := [some (.ref 43), some (.ref w), some (xV p), some (xV dd), some (xV kk), some (xV le), some (xV co), some (xV (xOr sn 0)), some (xV q), some (xV (uSl (b w 4) q))]) xc91_104 rfl rfl ?_
      refine x_iload xc91_106 rfl ?_
      refine x_iconst xc91_108 ?_
      refine x_icne xc91_109 (xRk (by have g0 := hkk; omega)) (xRk (by decide)) (fun h2 => ?_) (fun h2 => ?_)
      · exact k2 h0 h1 h2
      · replace h2 := Classical.not_not.mp h2
        refine x_iload xc91_112 rfl ?_
        refine x_ifeq xc91_114 (xRk (by have g0 := hq; omega)) (fun h3 => ?_) (fun h3 => ?_)
        · exact k3 h0 h1 h2 h3
        · refine x_iload xc91_117 rfl ?_
          refine x_iload xc91_119 rfl ?_
          refine x_icne xc91_121 (xRk (by have g0 := uSl_b (l := b w 4) (j := q) (by have g0 := hq; omega) (by have g0 := hq; omega); omega)) (xRk (by have g0 := hle; omega)) (fun h4 => ?_) (fun h4 => ?_)
          · exact k4 h0 h1 h2 h3 h4
          · replace h4 := Classical.not_not.mp h4
            refine x_aloadn xc91_124 rfl ?_
            refine x_gfr xc91_125 rfl rfl hz.1 rfl ?_
            refine x_iload xc91_128 rfl ?_
            refine x_aloadn xc91_130 rfl ?_
            refine x_gfr xc91_131 rfl rfl hz.1 rfl ?_
            refine x_iload xc91_134 rfl ?_
            refine x_lal xc91_136 hz.2.1 (by have g0 := hq; omega) (by have g0 := hq; omega) (by have g0 := hq; omega) ?_
            refine x_iloadn xc91_137 rfl ?_
            refine x_iconst xc91_138 ?_
            refine x_cS (as := [xV dd, xV 1]) (rest := [.long (b (w + 1) q), xV q, .ref (w + 1)]) xc91_139 rfl rfl xi83 ⟨rfl, rfl⟩ rfl rfl ?_
            refine rk83a (by omega) (by have g0 := hdd; omega) ?_
            refine x_bipush xc91_142 (by decide) ?_
            refine x_cS (as := [.long (b (w + 1) q), xV (dd / 8 % 8 - 1), xV 8]) (rest := [xV q, .ref (w + 1)]) xc91_144 rfl rfl xi19 ⟨rfl, rfl⟩ rfl rfl ?_
            refine xk19 (by omega) (xRk (by have g0 := hdd; omega)) (xRk (by decide)) ?_
            refine x_las xc91_147 hz.2.1 (by have g0 := hq; omega) (by have g0 := hq; omega) (by have g0 := hq; omega) ?_
            exact k5 h0 h1 h2 h3 h4
    · refine x_iload xc91_81 rfl ?_
      refine x_iload xc91_83 rfl ?_
      refine x_iceq xc91_85 (xRk (by have g0 := uSl_b (l := b w 4) (j := q) (by have g0 := hq; omega) (by have g0 := hq; omega); omega)) (xRk (by have g0 := hle; omega)) (fun h5 => ?_) (fun h5 => ?_)
      · refine x_iconst xc91_95 ?_
        refine x_iload xc91_96 rfl ?_
        refine x_ishl (M := ((2 ^ q.toNat : Nat) : Int)) (by have g0 := hq; omega) (by have g0 := hq; omega) rfl xc91_98 ?_
        refine x_goto xc91_99 ?_
        refine x_ior xc91_103 ?_
        refine x_istore (pl' := [some (.ref 43), some (.ref w), some (xV p), some (xV dd), some (xV kk), some (xV le), some (xV co), some (xV (xOr sn (1 * ((2 ^ q.toNat : Nat) : Int)))), some (xV q), some (xV (uSl (b w 4) q))]) xc91_104 rfl rfl ?_
        refine x_iload xc91_106 rfl ?_
        refine x_iconst xc91_108 ?_
        refine x_icne xc91_109 (xRk (by have g0 := hkk; omega)) (xRk (by decide)) (fun h6 => ?_) (fun h6 => ?_)
        · exact k6 h0 h1 h5 h6
        · replace h6 := Classical.not_not.mp h6
          refine x_iload xc91_112 rfl ?_
          refine x_ifeq xc91_114 (xRk (by have g0 := hq; omega)) (fun h7 => ?_) (fun h7 => ?_)
          · exact k7 h0 h1 h5 h6 h7
          · refine x_iload xc91_117 rfl ?_
            refine x_iload xc91_119 rfl ?_
            refine x_icne xc91_121 (xRk (by have g0 := uSl_b (l := b w 4) (j := q) (by have g0 := hq; omega) (by have g0 := hq; omega); omega)) (xRk (by have g0 := hle; omega)) (fun h => absurd h (by omega)) (fun _ => ?_)
            refine x_aloadn xc91_124 rfl ?_
            refine x_gfr xc91_125 rfl rfl hz.1 rfl ?_
            refine x_iload xc91_128 rfl ?_
            refine x_aloadn xc91_130 rfl ?_
            refine x_gfr xc91_131 rfl rfl hz.1 rfl ?_
            refine x_iload xc91_134 rfl ?_
            refine x_lal xc91_136 hz.2.1 (by have g0 := hq; omega) (by have g0 := hq; omega) (by have g0 := hq; omega) ?_
            refine x_iloadn xc91_137 rfl ?_
            refine x_iconst xc91_138 ?_
            refine x_cS (as := [xV dd, xV 1]) (rest := [.long (b (w + 1) q), xV q, .ref (w + 1)]) xc91_139 rfl rfl xi83 ⟨rfl, rfl⟩ rfl rfl ?_
            refine rk83a (by omega) (by have g0 := hdd; omega) ?_
            refine x_bipush xc91_142 (by decide) ?_
            refine x_cS (as := [.long (b (w + 1) q), xV (dd / 8 % 8 - 1), xV 8]) (rest := [xV q, .ref (w + 1)]) xc91_144 rfl rfl xi19 ⟨rfl, rfl⟩ rfl rfl ?_
            refine xk19 (by omega) (xRk (by have g0 := hdd; omega)) (xRk (by decide)) ?_
            refine x_las xc91_147 hz.2.1 (by have g0 := hq; omega) (by have g0 := hq; omega) (by have g0 := hq; omega) ?_
            exact k8 h0 h1 h5 h6 h7
      · refine x_iload xc91_88 rfl ?_
        refine x_iload xc91_90 rfl ?_
        refine x_icne xc91_92 (xRk (by have g0 := uSl_b (l := b w 4) (j := q) (by have g0 := hq; omega) (by have g0 := hq; omega); omega)) (xRk (by have g0 := hco; omega)) (fun h9 => ?_) (fun h9 => ?_)
        · refine x_iconst xc91_102 ?_
          refine x_ior xc91_103 ?_
          refine x_istore (pl' := [some (.ref 43), some (.ref w), some (xV p), some (xV dd), some (xV kk), some (xV le), some (xV co), some (xV (xOr sn 0)), some (xV q), some (xV (uSl (b w 4) q))]) xc91_104 rfl rfl ?_
          refine x_iload xc91_106 rfl ?_
          refine x_iconst xc91_108 ?_
          refine x_icne xc91_109 (xRk (by have g0 := hkk; omega)) (xRk (by decide)) (fun h10 => ?_) (fun h10 => ?_)
          · exact k9 h0 h1 h5 h9 h10
          · replace h10 := Classical.not_not.mp h10
            refine x_iload xc91_112 rfl ?_
            refine x_ifeq xc91_114 (xRk (by have g0 := hq; omega)) (fun h11 => ?_) (fun h11 => ?_)
            · exact k10 h0 h1 h5 h9 h10 h11
            · refine x_iload xc91_117 rfl ?_
              refine x_iload xc91_119 rfl ?_
              refine x_icne xc91_121 (xRk (by have g0 := uSl_b (l := b w 4) (j := q) (by have g0 := hq; omega) (by have g0 := hq; omega); omega)) (xRk (by have g0 := hle; omega)) (fun _ => ?_) (fun h => absurd h (by omega))
              exact k11 h0 h1 h5 h9 h10 h11
        · replace h9 := Classical.not_not.mp h9
          refine x_iconst xc91_95 ?_
          refine x_iload xc91_96 rfl ?_
          refine x_ishl (M := ((2 ^ q.toNat : Nat) : Int)) (by have g0 := hq; omega) (by have g0 := hq; omega) rfl xc91_98 ?_
          refine x_goto xc91_99 ?_
          refine x_ior xc91_103 ?_
          refine x_istore (pl' := [some (.ref 43), some (.ref w), some (xV p), some (xV dd), some (xV kk), some (xV le), some (xV co), some (xV (xOr sn (1 * ((2 ^ q.toNat : Nat) : Int)))), some (xV q), some (xV (uSl (b w 4) q))]) xc91_104 rfl rfl ?_
          refine x_iload xc91_106 rfl ?_
          refine x_iconst xc91_108 ?_
          refine x_icne xc91_109 (xRk (by have g0 := hkk; omega)) (xRk (by decide)) (fun h13 => ?_) (fun h13 => ?_)
          · exact k12 h0 h1 h5 h9 h13
          · replace h13 := Classical.not_not.mp h13
            refine x_iload xc91_112 rfl ?_
            refine x_ifeq xc91_114 (xRk (by have g0 := hq; omega)) (fun h14 => ?_) (fun h14 => ?_)
            · exact k13 h0 h1 h5 h9 h13 h14
            · refine x_iload xc91_117 rfl ?_
              refine x_iload xc91_119 rfl ?_
              refine x_icne xc91_121 (xRk (by have g0 := uSl_b (l := b w 4) (j := q) (by have g0 := hq; omega) (by have g0 := hq; omega); omega)) (xRk (by have g0 := hle; omega)) (fun _ => ?_) (fun h => absurd h (by omega))
              exact k14 h0 h1 h5 h9 h13 h14

theorem w91n {ro : Nat → Nat × (Nat → Int32)} {d : Nat} {Q : Option Value → pmS → Prop} {v9 : Option Value} {kk le co sn q p dd : Int} {w : Nat} {a : xA} {b : xB} (hz : uWz w) (hp : 0 ≤ p ∧ p ≤ 3) (hdd : 0 ≤ dd ∧ dd ≤ 447) (hdx : 1 ≤ dd / 8 % 8) (hkk : 0 ≤ kk ∧ kk ≤ 7) (hle : 0 ≤ le ∧ le ≤ 15) (hco : 0 ≤ co ∧ co ≤ 15) (hsn : 0 ≤ sn ∧ sn ≤ 15) (hq : 0 ≤ q ∧ q ≤ 3) (hd : 1 ≤ d)
    (k1 : pmWp ro d 4 91 1 56 [some (.ref 43), some (.ref w), some (xV p), some (xV dd), some (xV kk), some (xV le), some (xV co), some (xV sn), some (xV (q + 1)), v9] [] (xS a b) Q) :
    pmWp ro d 4 91 1 148 [some (.ref 43), some (.ref w), some (xV p), some (xV dd), some (xV kk), some (xV le), some (xV co), some (xV sn), some (xV q), v9] [] (xS a b) Q := by
  refine x_iinc (pl' := [some (.ref 43), some (.ref w), some (xV p), some (xV dd), some (xV kk), some (xV le), some (xV co), some (xV sn), some (xV (q + 1)), v9]) xc91_148 rfl rfl ?_
  refine x_goto xc91_151 ?_
  exact k1

theorem w91t {ro : Nat → Nat × (Nat → Int32)} {d : Nat} {Q : Option Value → pmS → Prop} {v9 : Option Value} {kk le co sn q p dd : Int} {w : Nat} {a : xA} {b : xB} (hz : uWz w) (hp : 0 ≤ p ∧ p ≤ 3) (hdd : 0 ≤ dd ∧ dd ≤ 447) (hdx : 1 ≤ dd / 8 % 8) (hkk : 0 ≤ kk ∧ kk ≤ 7) (hle : 0 ≤ le ∧ le ≤ 15) (hco : 0 ≤ co ∧ co ≤ 15) (hsn : 0 ≤ sn ∧ sn ≤ 15) (hq : 0 ≤ q ∧ q ≤ 4) (hd : 1 ≤ d)
    (k1 : (¬ kk = 6) → pmWp ro d 4 91 1 175 [some (.ref 43), some (.ref w), some (xV p), some (xV dd), some (xV kk), some (xV le), some (xV co), some (xV sn), some (xV q), v9] [] (xS a b) Q)
    (k2 : (kk = 6) → pmCs ro d 92 [.ref w, xV (dd / 8 % 8 - 1), xV (dd % 8 - 1)] (xS a b) fun r σ' => pmWp ro d 4 91 1 175 [some (.ref 43), some (.ref w), some (xV p), some (xV dd), some (xV kk), some (xV le), some (xV co), some (xV sn), some (xV q), v9] (r.toList ++ []) σ' Q) :
    pmWp ro d 4 91 1 154 [some (.ref 43), some (.ref w), some (xV p), some (xV dd), some (xV kk), some (xV le), some (xV co), some (xV sn), some (xV q), v9] [] (xS a b) Q := by
  refine x_iload xc91_154 rfl ?_
  refine x_bipush xc91_156 (by decide) ?_
  refine x_icne xc91_158 (xRk (by have g0 := hkk; omega)) (xRk (by decide)) (fun h0 => ?_) (fun h0 => ?_)
  · exact k1 h0
  · replace h0 := Classical.not_not.mp h0
    refine x_aloadn xc91_161 rfl ?_
    refine x_iloadn xc91_162 rfl ?_
    refine x_iconst xc91_163 ?_
    refine x_cS (as := [xV dd, xV 1]) (rest := [.ref w]) xc91_164 rfl rfl xi83 ⟨rfl, rfl⟩ rfl rfl ?_
    refine rk83a (by omega) (by have g0 := hdd; omega) ?_
    refine x_iloadn xc91_167 rfl ?_
    refine x_iconst xc91_168 ?_
    refine x_cS (as := [xV dd, xV 2]) (rest := [xV (dd / 8 % 8 - 1), .ref w]) xc91_169 rfl rfl xi83 ⟨rfl, rfl⟩ rfl rfl ?_
    refine rk83b (by omega) (by have g0 := hdd; omega) ?_
    refine x_cS (as := [.ref w, xV (dd / 8 % 8 - 1), xV (dd % 8 - 1)]) (rest := []) xc91_172 rfl rfl xi92 ⟨rfl, rfl⟩ rfl rfl ?_
    exact k2 h0

theorem w91e {ro : Nat → Nat × (Nat → Int32)} {d : Nat} {Q : Option Value → pmS → Prop} {v9 : Option Value} {kk le co sn q p dd : Int} {w : Nat} {a : xA} {b : xB} (hz : uWz w) (hp : 0 ≤ p ∧ p ≤ 3) (hdd : 0 ≤ dd ∧ dd ≤ 447) (hdx : 1 ≤ dd / 8 % 8) (hkk : 0 ≤ kk ∧ kk ≤ 7) (hle : 0 ≤ le ∧ le ≤ 15) (hco : 0 ≤ co ∧ co ≤ 15) (hsn : 0 ≤ sn ∧ sn ≤ 15) (hq : 0 ≤ q ∧ q ≤ 4) (hev : 0 ≤ a w 11 ∧ a w 11 ≤ 2000) (hd : 1 ≤ d)
    (k1 : (¬ sn = 0) → pmCs ro d 94 [.ref 13, .ref w, xV (uEo p dd 0)] (xS (xU a w 11 (a w 11 + 1)) b) fun r σ' => pmWp ro d 4 91 1 208 [some (.ref 43), some (.ref w), some (xV p), some (xV dd), some (xV kk), some (xV le), some (xV co), some (xV sn), some (xV q), v9] (r.toList ++ []) σ' Q)
    (k2 : (sn = 0) → pmCs ro d 94 [.ref 13, .ref w, xV (uEo p dd 1)] (xS (xU a w 11 (a w 11 + 1)) b) fun r σ' => pmWp ro d 4 91 1 208 [some (.ref 43), some (.ref w), some (xV p), some (xV dd), some (xV kk), some (xV le), some (xV co), some (xV sn), some (xV q), v9] (r.toList ++ []) σ' Q) :
    pmWp ro d 4 91 1 175 [some (.ref 43), some (.ref w), some (xV p), some (xV dd), some (xV kk), some (xV le), some (xV co), some (xV sn), some (xV q), v9] [] (xS a b) Q := by
  refine x_aloadn xc91_175 rfl ?_
  refine x_dup xc91_176 rfl ?_
  refine x_gfi (k := 11) xc91_177 rfl (Or.inl rfl) rfl hz.1 ?_
  refine x_iconst xc91_180 ?_
  refine x_iadd xc91_181 ?_
  refine x_pfi (k := 11) xc91_182 rfl ⟨rfl, rfl⟩ rfl hz.1 ?_
  refine x_aloadn xc91_185 rfl ?_
  refine x_gfr xc91_186 rfl rfl xz43 rfl ?_
  refine x_aloadn xc91_189 rfl ?_
  refine x_iloadn xc91_190 rfl ?_
  refine x_iloadn xc91_191 rfl ?_
  refine x_iload xc91_192 rfl ?_
  refine x_ifne xc91_194 (xRk (by have g0 := hsn; omega)) (fun h0 => ?_) (fun h0 => ?_)
  · refine x_iconst xc91_201 ?_
    refine x_cS (as := [xV p, xV dd, xV 0]) (rest := [.ref w, .ref 13]) xc91_202 rfl rfl xi93 ⟨rfl, rfl⟩ rfl rfl ?_
    refine rk93 (by omega) (by have g0 := hp; omega) (by have g0 := hdd; omega) (by decide) ?_
    refine x_cV (as := [.ref w, xV (uEo p dd 0)]) (rest := []) xc91_205 rfl xi94 xz13 ⟨rfl, rfl⟩ rfl rfl ?_
    exact k1 h0
  · replace h0 := Classical.not_not.mp h0
    refine x_iconst xc91_197 ?_
    refine x_goto xc91_198 ?_
    refine x_cS (as := [xV p, xV dd, xV 1]) (rest := [.ref w, .ref 13]) xc91_202 rfl rfl xi93 ⟨rfl, rfl⟩ rfl rfl ?_
    refine rk93 (by omega) (by have g0 := hp; omega) (by have g0 := hdd; omega) (by decide) ?_
    refine x_cV (as := [.ref w, xV (uEo p dd 1)]) (rest := []) xc91_205 rfl xi94 xz13 ⟨rfl, rfl⟩ rfl rfl ?_
    exact k2 h0

theorem w91l {ro : Nat → Nat × (Nat → Int32)} {d : Nat} {Q : Option Value → pmS → Prop} {v9 : Option Value} {kk le co sn q p dd : Int} {w : Nat} {a : xA} {b : xB} (hz : uWz w) (hp : 0 ≤ p ∧ p ≤ 3) (hdd : 0 ≤ dd ∧ dd ≤ 447) (hdx : 1 ≤ dd / 8 % 8) (hkk : 0 ≤ kk ∧ kk ≤ 7) (hle : 0 ≤ le ∧ le ≤ 15) (hco : 0 ≤ co ∧ co ≤ 15) (hsn : 0 ≤ sn ∧ sn ≤ 15) (hq : 0 ≤ q ∧ q ≤ 4) (hd : 1 ≤ d)
    (k1 : pmCs ro d 59 [.ref 43, .ref w] (xS a b) fun r σ' => pmWp ro d 4 91 1 213 [some (.ref 43), some (.ref w), some (xV p), some (xV dd), some (xV kk), some (xV le), some (xV co), some (xV sn), some (xV q), v9] (r.toList ++ []) σ' Q) :
    pmWp ro d 4 91 1 208 [some (.ref 43), some (.ref w), some (xV p), some (xV dd), some (xV kk), some (xV le), some (xV co), some (xV sn), some (xV q), v9] [] (xS a b) Q := by
  refine x_aloadn xc91_208 rfl ?_
  refine x_aloadn xc91_209 rfl ?_
  refine x_cV (as := [.ref w]) (rest := []) xc91_210 rfl xi59 xz43 ⟨rfl, rfl⟩ rfl rfl ?_
  exact k1

theorem w91r {ro : Nat → Nat × (Nat → Int32)} {d : Nat} {Q : Option Value → pmS → Prop} {v9 : Option Value} {kk le co sn q p dd : Int} {w : Nat} {a : xA} {b : xB} (hz : uWz w) (hp : 0 ≤ p ∧ p ≤ 3) (hdd : 0 ≤ dd ∧ dd ≤ 447) (hdx : 1 ≤ dd / 8 % 8) (hkk : 0 ≤ kk ∧ kk ≤ 7) (hle : 0 ≤ le ∧ le ≤ 15) (hco : 0 ≤ co ∧ co ≤ 15) (hsn : 0 ≤ sn ∧ sn ≤ 15) (hq : 0 ≤ q ∧ q ≤ 4) (hd : 1 ≤ d)
    (k1 : Q (some (xV (xOr dd (sn * 512)))) (xS a b)) :
    pmWp ro d 4 91 1 213 [some (.ref 43), some (.ref w), some (xV p), some (xV dd), some (xV kk), some (xV le), some (xV co), some (xV sn), some (xV q), v9] [] (xS a b) Q := by
  refine x_iloadn xc91_213 rfl ?_
  refine x_iload xc91_214 rfl ?_
  refine x_bipush xc91_216 (by decide) ?_
  refine x_ishl (M := 512) (by omega) (by omega) (by decide) xc91_218 ?_
  refine x_ior xc91_219 ?_
  refine x_iret xc91_220 (Or.inl rfl) ?_
  exact k1

end
