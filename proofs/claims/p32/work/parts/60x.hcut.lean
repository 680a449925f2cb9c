theorem or_bd {x y : Int} {n : Nat} (hn : n ≤ 62) (hx0 : 0 ≤ x) (hx : x < 2 ^ n) (hy0 : 0 ≤ y) (hy : y < 2 ^ n) : 0 ≤ (Int64.ofInt x ||| Int64.ofInt y).toInt ∧ (Int64.ofInt x ||| Int64.ofInt y).toInt < 2 ^ n := by
  have hp : (2 : Int) ^ n ≤ 2 ^ 62 := by
    have h := Int.ofNat_le.mpr (Nat.pow_le_pow_right (n := 2) (by decide) hn)
    rw [Int.natCast_pow, Int.natCast_pow] at h
    exact h
  have e62 : (2 : Int) ^ 62 = 4611686018427387904 := by decide
  have h1 : (Int64.ofInt x ||| Int64.ofInt y).toBitVec.toNat = x.toNat ||| y.toNat := by
    rw [Int64.toBitVec_or, BitVec.toNat_or, Int64.toBitVec_ofInt, Int64.toBitVec_ofInt, BitVec.toNat_ofInt, BitVec.toNat_ofInt]
    rw [Int.emod_eq_of_lt hx0 (by omega), Int.emod_eq_of_lt hy0 (by omega)]
  have h2 : x.toNat ||| y.toNat < 2 ^ n := Nat.or_lt_two_pow ((Int.toNat_lt hx0).mpr (by rw [Int.natCast_pow]; exact hx)) ((Int.toNat_lt hy0).mpr (by rw [Int.natCast_pow]; exact hy))
  have hq : (2 : Nat) ^ n ≤ 2 ^ 62 := Nat.pow_le_pow_right (by decide) hn
  have e63 : (2 : Nat) ^ 62 = 4611686018427387904 := by decide
  have h3 : (Int64.ofInt x ||| Int64.ofInt y).toInt = ((x.toNat ||| y.toNat : Nat) : Int) := by
    show (Int64.ofInt x ||| Int64.ofInt y).toBitVec.toInt = _
    rw [BitVec.toInt_eq_toNat_of_lt (by rw [h1]; omega), h1]
  rw [h3]
  refine ⟨Int.natCast_nonneg _, ?_⟩
  have := Int.ofNat_lt.mpr h2
  rw [Int.natCast_pow] at this
  exact this
theorem shl_8 : ∀ a : Fin 256, (Int64.ofInt (a.val : Int) <<< ((Int32.ofInt 8).toInt64 &&& 63)).toInt = 256 * (a.val : Int) := by decide +kernel
theorem nm_0 {s : Int} (h0 : 0 ≤ s) (h1 : s ≤ 255) : 0 ≤ (Int64.ofInt ((Int64.ofInt 0 <<< ((Int32.ofInt 8).toInt64 &&& 63)).toInt) ||| Int64.ofInt s).toInt ∧ (Int64.ofInt ((Int64.ofInt 0 <<< ((Int32.ofInt 8).toInt64 &&& 63)).toInt) ||| Int64.ofInt s).toInt < 256 := by
  rw [show (Int64.ofInt 0 <<< ((Int32.ofInt 8).toInt64 &&& 63)).toInt = 0 by decide +kernel]
  exact or_bd (n := 8) (by decide) (by decide) (by decide) h0 (by omega)
theorem nm_1 {a s : Int} (ha : 0 ≤ a) (hb : a < 256) (h0 : 0 ≤ s) (h1 : s ≤ 255) : 0 ≤ (Int64.ofInt ((Int64.ofInt a <<< ((Int32.ofInt 8).toInt64 &&& 63)).toInt) ||| Int64.ofInt s).toInt ∧ (Int64.ofInt ((Int64.ofInt a <<< ((Int32.ofInt 8).toInt64 &&& 63)).toInt) ||| Int64.ofInt s).toInt < 65536 := by
  have h := shl_8 ⟨a.toNat, by omega⟩
  have h : (Int64.ofInt (a.toNat : Int) <<< ((Int32.ofInt 8).toInt64 &&& 63)).toInt = 256 * (a.toNat : Int) := h
  rw [show (a.toNat : Int) = a by omega] at h
  rw [h]
  exact or_bd (n := 16) (by decide) (by omega) (by omega) h0 (by omega)
theorem gI_nm {M : pM} (hG : gI M) {x : Int} : gI (st M 61 10 x) := by
  refine gI_st hG (fun b hb hle => ?_) (fun e he h1 h2 => ?_)
  · have h : (gl 61)[10 % (gl 61).length]? = some ((1 : Int), (0 : Int)) := by decide +kernel
    rw [h] at hb
    cases hb
    exact absurd hle (by decide)
  · have hr : rfT.all (fun e => !(Nat.beq e.1 61 && Nat.beq e.2.1 10)) = true := by decide +kernel
    have hr := List.all_eq_true.mp hr e he
    rw [h1, h2] at hr
    exact absurd hr (by decide)
theorem gI_sz {M : pM} (hG : gI M) : 0 ≤ M 61 3 ∧ M 61 3 ≤ 1900 := hG.1 61 3 (0, 1900) (fun _ => by decide +kernel) (by decide +kernel) (by decide)

theorem sgn_ok (hs : Hold k_254) {r : Nat} (hr : 1 ≤ r) {M : pM} (hG : gI M) {k : Int} (h0 : 0 ≤ k) (h1 : k ≤ 2147483647) : OJ r 173 [vr 62, vi k] 119 M (fun ret M' => M' = M ∧ ∃ x, ret = some (vi x) ∧ 0 ≤ x ∧ x ≤ 255) := by
  obtain ⟨ρ, e0, e1⟩ : ∃ ρ : Nat → Int, ρ 0 = k ∧ ρ 1 = M 61 3 := ⟨fun s => if s = 0 then k else M 61 3, rfl, rfl⟩
  have hz := gI_sz hG
  have h := hs r hr ρ [vr 62, vi k] M ⟨rfl, by show vi k = vi (0 + (1 * ρ 0 + 0)); rw [e0]; congr 1; omega, trivial⟩ (okM_c (pvm (c := 61) (by decide) (x' := 3) (y' := M 61 3) rfl (by show 0 + (1 * ρ 1 + 0) = _; omega) ⟨by decide, rfl⟩) okM_n) (okB_c (by omega) (okB_c (by omega) okB_n)) okF_n hG
  refine OJ_mono (fun ret M' hq => ?_) h
  obtain ⟨k1, k2, e, k3, ρ', k4, k5, k6, k7, k8⟩ := hq
  refine ⟨funext (fun c => funext (fun i => k2 c i rfl)), ?_⟩
  rcases List.mem_cons.mp k3 with q | q
  · subst q
    obtain ⟨x, x1, x2⟩ := k5
    have hb : 0 ≤ ρ' 2 ∧ ρ' 2 ≤ 255 := k7 _ List.mem_cons_self
    have x2 : x = vi (0 + (1 * ρ' 2 + 0)) := x2
    exact ⟨_, by rw [x1, x2], by omega, by omega⟩
  · have q := List.mem_singleton.mp q
    subst q
    obtain ⟨x, x1, x2⟩ := k5
    have x2 : x = vi (0 + 0) := x2
    exact ⟨0, by rw [x1, x2]; rfl, by omega, by omega⟩
theorem nloop (hs : Hold k_254) {r : Nat} (hr : 1 ≤ r) {Q : pQ} {l1 a en : Int} : ∀ (d : Nat) (k : Int) (M : pM), gI M → M 61 6 = a → M 61 7 = en → 0 ≤ a → a ≤ 1901 → en ≤ 1902 → a + 1 ≤ en → a ≤ k → k ≤ en → k ≤ a + 8 → (k = a → M 61 10 = 0) → (k = a + 1 → 0 ≤ M 61 10 ∧ M 61 10 < 256) → (k = a + 2 → 0 ≤ M 61 10 ∧ M 61 10 < 65536) → (en - k).toNat ≤ d →
    (∀ (k' : Int) (M' : pM), gI M' → (∀ c i, ¬ (c = 61 ∧ i = 10) → M' c i = M c i) → (M' 61 10 = 7237492 → 3 ≤ en - a) → J (OJ r) 180 119 Q 199 [some (vr 62), some (vi l1), some (vi k')] [] 119 M') →
    J (OJ r) 180 119 Q 156 [some (vr 62), some (vi l1), some (vi k)] [] 119 M := by
  intro d
  induction d with
  | zero =>
    intro k M hG h6 h7 a0 a1 e1 e2 k0 k1 k2 n0 n1 n2 hd fin
    rw [s_180_156, s_180_157, s_180_158 (a := 61)]
    refine ⟨ob_61 (by decide), ?_⟩
    rw [s_180_161, h7]
    exact ⟨fun _ => fin k M hG (fun _ _ _ => rfl) (by omega), fun hlt => by omega⟩
  | succ d ih =>
    intro k M hG h6 h7 a0 a1 e1 e2 k0 k1 k2 n0 n1 n2 hd fin
    rw [s_180_156, s_180_157, s_180_158 (a := 61)]
    refine ⟨ob_61 (by decide), ?_⟩
    rw [s_180_161, h7]
    refine ⟨fun _ => fin k M hG (fun _ _ _ => rfl) (by omega), fun hlt => ?_⟩
    rw [s_180_164, s_180_165, s_180_166 (a := 61)]
    refine ⟨ob_61 (by decide), ?_⟩
    rw [s_180_169, s_180_171, s_180_172, h6, w32_id (by unfold r32; omega)]
    refine ⟨fun _ => fin k M hG (fun _ _ _ => rfl) (by omega), fun hlt2 => ?_⟩
    rw [s_180_175, s_180_176, s_180_177 (a := 61)]
    refine ⟨ob_61 (by decide), ?_⟩
    rw [s_180_180, s_180_182, s_180_183, s_180_184, s_180_185 (b := 61)]
    refine ⟨ob_61 (by decide), by rw [stk_l, stk_r, stk_n]; decide, ?_⟩
    refine ⟨_, sgn_ok hs hr hG (k := k) (by omega) (by omega), fun ret M' hq => ?_⟩
    obtain ⟨hM, x, hx, x0, x1⟩ := hq
    subst hM
    refine ⟨x, hx, ?_⟩
    rw [s_180_188, s_180_189, s_180_190 (a := 61)]
    refine ⟨ob_61 (by decide), ?_⟩
    rw [s_180_193, s_180_196, w32_id (by unfold r32; omega)]
    have hst : ∀ c i y, ¬ (c = 61 ∧ i = 10) → st M' 61 10 y c i = M' c i := fun c i y hc => if_neg hc
    have hs1 : ∀ y, st M' 61 10 y 61 10 = y := fun y => if_pos ⟨rfl, rfl⟩
    refine ih (k + 1) _ (gI_nm hG) ?_ ?_ a0 a1 e1 e2 (by omega) (by omega) (by omega) (fun h => by omega) (fun h => ?_) (fun h => ?_) (by omega) (fun k' M2 g1 g2 g3 => fin k' M2 g1 (fun c i hc => by rw [g2 c i hc, hst c i _ hc]) g3)
    · rw [hst 61 6 _ (by decide)]; exact h6
    · rw [hst 61 7 _ (by decide)]; exact h7
    · rw [hs1, n0 (by omega)]
      exact nm_0 x0 x1
    · rw [hs1]
      have := n1 (by omega)
      exact nm_1 this.1 this.2 x0 x1

theorem hc_332 : HandCut CT k_332 u_332 (u_332.getD 2 (0, 0, ([], [], [], [], []), (0, []))) := by
  intro r hr hCT ρ ρ1 M0 M1 L S ha hL hS hM hB hF hPB hPF h0 hG hf hC
  have hs : Hold k_254 := hCT k_254 (List.mem_of_getElem? (i := 254) rfl) (by decide)
  match L, hL with
  | [x, y, l2], ⟨hx, hy, _, _⟩ => ?_
  obtain ⟨x', hx1, hx2⟩ := hx
  obtain ⟨y', hy1, hy2⟩ := hy
  have hx2 : x' = vr 62 := hx2
  have hy2 : y' = vi (0 + (1 * ρ1 2 + 0)) := hy2
  subst hx2
  subst hy2
  subst hx1
  subst hy1
  match S, hS with
  | [], _ => ?_
  have h7 := cvm (c := 61) (by decide) (x' := 7) (y' := ρ1 3) rfl (by show 0 + (1 * ρ1 3 + 0) = _; omega) (hM _ List.mem_cons_self)
  have h6 := cvm (c := 61) (by decide) (x' := 6) (y' := ρ1 4) rfl (by show 0 + (1 * ρ1 4 + 0) = _; omega) (hM _ (List.mem_cons_of_mem _ (List.mem_cons_of_mem _ List.mem_cons_self)))
  have h3 := cvm (c := 61) (by decide) (x' := 3) (y' := ρ1 1) rfl (by show 0 + (1 * ρ1 1 + 0) = _; omega) (hM _ (List.mem_cons_of_mem _ List.mem_cons_self))
  have h7 : M1 61 7 = ρ1 3 := h7.2
  have h6 : M1 61 6 = ρ1 4 := h6.2
  have h3 : M1 61 3 = ρ1 1 := h3.2
  have b1 : 1 ≤ ρ1 1 ∧ ρ1 1 ≤ 1900 := hB _ List.mem_cons_self
  have b2 : 97 ≤ ρ1 2 ∧ ρ1 2 ≤ 122 := hB _ (List.mem_cons_of_mem _ List.mem_cons_self)
  have b3 : 1 ≤ ρ1 3 ∧ ρ1 3 ≤ 1902 := hB _ (List.mem_cons_of_mem _ (List.mem_cons_of_mem _ List.mem_cons_self))
  have b4 : 0 ≤ ρ1 4 ∧ ρ1 4 ≤ 1901 := hB _ (List.mem_cons_of_mem _ (List.mem_cons_of_mem _ (List.mem_cons_of_mem _ List.mem_cons_self)))
  have b0 : 0 ≤ ρ1 0 ∧ ρ1 0 ≤ 1901 := hPB _ List.mem_cons_self
  have g0 : 0 ≤ 0 + ((-1) * ρ1 0 + (1 * ρ1 4 + 0)) := hF _ List.mem_cons_self
  have g1 : 0 ≤ (-1) + (1 * ρ1 3 + ((-1) * ρ1 4 + 0)) := hF _ (List.mem_cons_of_mem _ List.mem_cons_self)
  have g2 : 0 ≤ 0 + (1 * ρ1 1 + ((-1) * ρ1 3 + 0)) := hF _ (List.mem_cons_of_mem _ (List.mem_cons_of_mem _ List.mem_cons_self))
  obtain ⟨a, ea⟩ : ∃ a, a = ρ1 4 := ⟨_, rfl⟩
  obtain ⟨en, ee⟩ : ∃ en, en = ρ1 3 := ⟨_, rfl⟩
  rw [← ea] at h6
  rw [← ee] at h7
  show J (OJ r) 180 119 _ 146 _ _ 119 M1
  rw [s_180_146, s_180_147, s_180_148 (a := 61)]
  refine ⟨ob_61 (by decide), ?_⟩
  rw [s_180_151, s_180_152 (a := 61)]
  refine ⟨ob_61 (by decide), ?_⟩
  have hst : ∀ c i y, ¬ (c = 61 ∧ i = 10) → st M1 61 10 y c i = M1 c i := fun c i y hc => if_neg hc
  rw [s_180_155, hst 61 6 _ (by decide), h6]
  refine nloop hs (show 1 ≤ r by have : (2 : Nat) ≤ r + 1 := hr; omega) (en := en) (a := a) _ a _ (gI_nm hG) ?_ ?_ (by omega) (by omega) (by omega) (by omega) (by omega) (by omega) (by omega) (fun _ => if_pos ⟨rfl, rfl⟩) (fun h => by omega) (fun h => by omega) (Nat.le_refl _) (fun k' M' g1 g2 hnm => ?_)
  · rw [hst 61 6 _ (by decide)]; exact h6
  · rw [hst 61 7 _ (by decide)]; exact h7
  have hM2 : ∀ c i, ¬ (c = 61 ∧ i = 10) → M' c i = M1 c i := fun c i hc => by rw [g2 c i hc, hst c i _ hc]
  obtain ⟨ρ', e0, e1, e2, e3, e4⟩ : ∃ ρ' : Nat → Int, ρ' 0 = ρ1 0 ∧ ρ' 1 = ρ1 1 ∧ ρ' 2 = ρ1 2 ∧ ρ' 3 = a ∧ ρ' 4 = en := ⟨fun s => if s = 3 then a else if s = 4 then en else ρ1 s, rfl, rfl, rfl, rfl, rfl⟩
  refine hC (u_332.getD 3 (0, 0, ([], [], [], [], []), (0, []))) (List.mem_of_getElem? (i := 3) rfl) ρ' _ _ M' (fun s hs => ?_) ⟨⟨_, rfl, rfl⟩, ⟨_, rfl, ?_⟩, trivial, trivial⟩ trivial (okM_c (pvm (c := 61) (by decide) (x' := 6) (y' := a) rfl (by show 0 + (1 * ρ' 3 + 0) = _; omega) ⟨by decide, by rw [hM2 61 _ (by decide)]; exact h6⟩) (okM_c (pvm (c := 61) (by decide) (x' := 3) (y' := M1 61 3) rfl (by show 0 + (1 * ρ' 1 + 0) = _; omega) ⟨by decide, by rw [hM2 61 _ (by decide)]; rfl⟩) (okM_c (pvm (c := 61) (by decide) (x' := 7) (y' := en) rfl (by show 0 + (1 * ρ' 4 + 0) = _; omega) ⟨by decide, by rw [hM2 61 _ (by decide)]; exact h7⟩) (okM_c (pvp 6 (x' := en - a) (y' := 0) (by show 0 + ((-1) * ρ' 3 + (1 * ρ' 4 + 0)) = _; omega) rfl hnm) okM_n)))) (okB_c (by omega) (okB_c (by omega) (okB_c (by omega) (okB_c (by omega) okB_n)))) (okF_c (by show 0 ≤ 0 + ((-1) * ρ' 0 + (1 * ρ' 3 + 0)); omega) (okF_c (by show 0 ≤ (-1) + ((-1) * ρ' 3 + (1 * ρ' 4 + 0)); omega) (okF_c (by show 0 ≤ 0 + (1 * ρ' 1 + ((-1) * ρ' 4 + 0)); omega) okF_n))) (by show 0 ≤ 1903 + 0; omega) (fun f hf => by cases hf; show 1903 + 0 < 1904 + 0; omega) g1 (fun c i hi => ?_)
  · have hs : s < 2 := hs
    rcases (show s = 0 ∨ s = 1 by omega) with q | q
    · rw [q, e0]
    · rw [q, e1]
  · show vi _ = vi (0 + (1 * ρ' 2 + 0))
    rw [e2]
  · rw [hM2 c i (fun hc => by rw [hc.1, hc.2] at hi; exact absurd hi (by decide +kernel))]
    exact hf c i hi
theorem isw_ok {r : Nat} {M : pM} {w : Int} {K : pQ} (h0 : ¬ (M 61 8 = 3 ∧ M 61 10 = w) → K (some (vi 0)) M) (h1 : M 61 8 = 3 → M 61 10 = w → K (some (vi 1)) M) : mo (OJ (r + 1)) 182 [vr 62, vl w] 119 M K := by
  rw [o_182, s_182_0, s_182_1 (a := 61)]
  refine ⟨ob_61 (by decide), ?_⟩
  have hz : ¬ (M 61 8 = 3 ∧ M 61 10 = w) → J (OJ r) 182 119 K 21 [some (vr 62), some (vl w), none] [] 119 M := fun h => by
    rw [s_182_21, s_182_22]
    exact ⟨rfl, Or.inl rfl, h0 h⟩
  rw [s_182_4, s_182_5]
  refine ⟨fun h => hz (fun q => h q.1), fun h => ?_⟩
  have h := Decidable.not_not.mp h
  rw [s_182_8, s_182_9 (a := 61)]
  refine ⟨ob_61 (by decide), ?_⟩
  rw [s_182_12, s_182_13, s_182_14]
  refine ⟨fun g => hz (fun q => g (by rw [if_neg (by omega), if_pos q.2])), fun g => ?_⟩
  have g := Decidable.not_not.mp g
  rw [s_182_17, s_182_18, s_182_22]
  refine ⟨rfl, Or.inr rfl, h1 h ?_⟩
  split at g
  · omega
  · split at g
    · next e => exact e
    · omega
theorem sub_M {ρ : Nat → Int} {M : pM} {a b : mf} (h : okM ρ a M) (hs : b.all (fun e => decide (e ∈ a)) = true) : okM ρ b M := fun e he => h e (of_decide_eq_true (List.all_eq_true.mp hs e he))
theorem hc_339 : HandCut CT k_339 u_339 (u_339.getD 0 (0, 0, ([], [], [], [], []), (0, []))) := by
  intro r hr hCT ρ ρ1 M0 M1 L S ha hL hS hM hB hF hPB hPF h0 hG hf hC
  match L, hL with
  | [x, y, l2, l3, l4], ⟨hx, hy, _, _, _, _⟩ => ?_
  obtain ⟨x', hx1, hx2⟩ := hx
  obtain ⟨y', hy1, hy2⟩ := hy
  have hx2 : x' = vr 62 := hx2
  have hy2 : y' = vi (1 + 0) := hy2
  subst hx2
  subst hy2
  subst hx1
  subst hy1
  match S, hS with
  | [], _ => ?_
  have h5 := cvp 5 (x' := ρ1 5 - ρ1 4) (y' := 0) (by show 0 + ((-1) * ρ1 4 + (1 * ρ1 5 + 0)) = _; omega) rfl (hM _ List.mem_cons_self)
  have h8 := cvm (c := 61) (by decide) (x' := 8) (y' := ρ1 6) rfl (by show 0 + (1 * ρ1 6 + 0) = _; omega) (hM _ (List.mem_cons_of_mem _ (List.mem_cons_of_mem _ (List.mem_cons_of_mem _ (List.mem_cons_of_mem _ List.mem_cons_self)))))
  have h8 : M1 61 8 = ρ1 6 := h8.2
  have b4 : 0 ≤ ρ1 4 ∧ ρ1 4 ≤ 1900 := hPB _ (List.mem_cons_of_mem _ (List.mem_cons_of_mem _ (List.mem_cons_of_mem _ (List.mem_cons_of_mem _ List.mem_cons_self))))
  have b5 : 0 ≤ ρ1 5 ∧ ρ1 5 ≤ 1901 := hPB _ (List.mem_cons_of_mem _ (List.mem_cons_of_mem _ (List.mem_cons_of_mem _ (List.mem_cons_of_mem _ (List.mem_cons_of_mem _ List.mem_cons_self)))))
  have b6 : 0 ≤ ρ1 6 ∧ ρ1 6 ≤ 5 := hPB _ (List.mem_cons_of_mem _ (List.mem_cons_of_mem _ (List.mem_cons_of_mem _ (List.mem_cons_of_mem _ (List.mem_cons_of_mem _ (List.mem_cons_of_mem _ List.mem_cons_self))))))
  have hr : (3 : Nat) ≤ r + 1 := hr
  obtain ⟨r', rfl⟩ : ∃ r', r = r' + 1 := ⟨r - 1, by omega⟩
  show J (OJ (r' + 1)) 270 119 _ 41 _ _ 119 M1
  rw [s_270_41, s_270_42, s_270_45 (b := 61)]
  refine ⟨ob_61 (by decide), by rw [stk_n]; decide, ?_⟩
  refine isw_ok (fun h => ⟨0, rfl, ?_⟩) (fun g1 g2 => ⟨1, rfl, ?_⟩)
  · exact hC (u_339.getD 1 (0, 0, ([], [], [], [], []), (0, []))) (List.mem_of_getElem? (i := 1) rfl) ρ1 _ _ M1 (fun _ _ => rfl) ⟨⟨_, rfl, rfl⟩, ⟨_, rfl, rfl⟩, trivial, trivial, trivial, trivial⟩ ⟨rfl, trivial⟩ (sub_M hM (by decide +kernel)) okB_n okF_n (by show 0 ≤ 0 + 0; omega) (fun f hf => by cases hf; show 0 + 0 < 1 + 0; omega) hG hf
  · have h3 := h5 g1 g2
    exact hC (u_339.getD 2 (0, 0, ([], [], [], [], []), (0, []))) (List.mem_of_getElem? (i := 2) rfl) ρ1 _ _ M1 (fun _ _ => rfl) ⟨⟨_, rfl, rfl⟩, ⟨_, rfl, rfl⟩, trivial, trivial, trivial, trivial⟩ ⟨rfl, trivial⟩ (sub_M hM (by decide +kernel)) (okB_c (by omega) (okB_c (by omega) (okB_c (by omega) okB_n))) (okF_c (by show 0 ≤ (-3) + ((-1) * ρ1 4 + (1 * ρ1 5 + 0)); omega) (okF_c (by show 0 ≤ 3 + ((-1) * ρ1 6 + 0); omega) (okF_c (by show 0 ≤ (-3) + (1 * ρ1 6 + 0); omega) okF_n))) (by show 0 ≤ 0 + 0; omega) (fun f hf => by cases hf; show 0 + 0 < 1 + 0; omega) hG hf
theorem hc_342 : HandCut CT k_342 u_342 (u_342.getD 0 (0, 0, ([], [], [], [], []), (0, []))) := by
  intro r hr hCT ρ ρ1 M0 M1 L S ha hL hS hM hB hF hPB hPF h0 hG hf hC
  match L, hL with
  | [x, y, l2, l3, l4], ⟨hx, hy, _, _, _, _⟩ => ?_
  obtain ⟨x', hx1, hx2⟩ := hx
  obtain ⟨y', hy1, hy2⟩ := hy
  have hx2 : x' = vr 62 := hx2
  have hy2 : y' = vi (1 + 0) := hy2
  subst hx2
  subst hy2
  subst hx1
  subst hy1
  match S, hS with
  | [], _ => ?_
  have h5 := cvp 5 (x' := ρ1 5 - ρ1 4) (y' := 0) (by show 0 + ((-1) * ρ1 4 + (1 * ρ1 5 + 0)) = _; omega) rfl (hM _ List.mem_cons_self)
  have h8 := cvm (c := 61) (by decide) (x' := 8) (y' := ρ1 6) rfl (by show 0 + (1 * ρ1 6 + 0) = _; omega) (hM _ (List.mem_cons_of_mem _ (List.mem_cons_of_mem _ (List.mem_cons_of_mem _ (List.mem_cons_of_mem _ List.mem_cons_self)))))
  have h8 : M1 61 8 = ρ1 6 := h8.2
  have b4 : 0 ≤ ρ1 4 ∧ ρ1 4 ≤ 1900 := hPB _ (List.mem_cons_of_mem _ (List.mem_cons_of_mem _ (List.mem_cons_of_mem _ (List.mem_cons_of_mem _ List.mem_cons_self))))
  have b5 : 0 ≤ ρ1 5 ∧ ρ1 5 ≤ 1901 := hPB _ (List.mem_cons_of_mem _ (List.mem_cons_of_mem _ (List.mem_cons_of_mem _ (List.mem_cons_of_mem _ (List.mem_cons_of_mem _ List.mem_cons_self)))))
  have b6 : 0 ≤ ρ1 6 ∧ ρ1 6 ≤ 5 := hPB _ (List.mem_cons_of_mem _ (List.mem_cons_of_mem _ (List.mem_cons_of_mem _ (List.mem_cons_of_mem _ (List.mem_cons_of_mem _ (List.mem_cons_of_mem _ List.mem_cons_self))))))
  have hr : (3 : Nat) ≤ r + 1 := hr
  obtain ⟨r', rfl⟩ : ∃ r', r = r' + 1 := ⟨r - 1, by omega⟩
  show J (OJ (r' + 1)) 270 119 _ 41 _ _ 119 M1
  rw [s_270_41, s_270_42, s_270_45 (b := 61)]
  refine ⟨ob_61 (by decide), by rw [stk_n]; decide, ?_⟩
  refine isw_ok (fun h => ⟨0, rfl, ?_⟩) (fun g1 g2 => ⟨1, rfl, ?_⟩)
  · exact hC (u_342.getD 1 (0, 0, ([], [], [], [], []), (0, []))) (List.mem_of_getElem? (i := 1) rfl) ρ1 _ _ M1 (fun _ _ => rfl) ⟨⟨_, rfl, rfl⟩, ⟨_, rfl, rfl⟩, trivial, trivial, trivial, trivial⟩ ⟨rfl, trivial⟩ (sub_M hM (by decide +kernel)) okB_n okF_n (by show 0 ≤ 0 + 0; omega) (fun f hf => by cases hf; show 0 + 0 < 1 + 0; omega) hG hf
  · have h3 := h5 g1 g2
    exact hC (u_342.getD 2 (0, 0, ([], [], [], [], []), (0, []))) (List.mem_of_getElem? (i := 2) rfl) ρ1 _ _ M1 (fun _ _ => rfl) ⟨⟨_, rfl, rfl⟩, ⟨_, rfl, rfl⟩, trivial, trivial, trivial, trivial⟩ ⟨rfl, trivial⟩ (sub_M hM (by decide +kernel)) (okB_c (by omega) (okB_c (by omega) (okB_c (by omega) okB_n))) (okF_c (by show 0 ≤ (-3) + ((-1) * ρ1 4 + (1 * ρ1 5 + 0)); omega) (okF_c (by show 0 ≤ 3 + ((-1) * ρ1 6 + 0); omega) (okF_c (by show 0 ≤ (-3) + (1 * ρ1 6 + 0); omega) okF_n))) (by show 0 ≤ 0 + 0; omega) (fun f hf => by cases hf; show 0 + 0 < 1 + 0; omega) hG hf
