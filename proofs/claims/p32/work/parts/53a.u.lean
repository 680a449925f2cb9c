theorem rl_69 {b k : Nat} (hb : b ≤ 1) (h1 : 64 * b ≤ k) (h2 : k ≤ 64 * b + 63) : inM (RLb b) 69 k = true := by
  rcases (show b = 0 ∨ b = 1 by omega) with rfl | rfl
  · exact inM_1 (lo := 0) (hi := 63) (by omega) (by omega) (List.mem_of_getElem? (i := 1) rfl)
  · exact inM_1 (lo := 64) (hi := 127) (by omega) (by omega) (List.mem_of_getElem? (i := 1) rfl)
theorem rv_16 {K : pM} (hG : gI K) : vr (K 61 16).toNat = vr (69 + 1) := by
  obtain ⟨x, hx, e⟩ := hG.2 (61, 16, [70]) (List.mem_of_getElem? (i := 73) rfl)
  rw [List.mem_singleton.mp hx] at e
  rw [show K 61 16 = ((70 : Nat) : Int) from e]
  rfl
theorem gb_69 {M : pM} (hG : gI M) {k : Nat} (hk : k < 128) : 0 ≤ M 69 k ∧ M 69 k ≤ 7 := hG.1 69 k (0, 7) (fun _ => hk) (by rw [show (gl 69).length = 1 from rfl, Nat.mod_one]; rfl) (by decide)
theorem rl_70 {b k : Nat} (hb : b ≤ 1) (h1 : 48 * b ≤ k) (h2 : k ≤ 48 * b + 47) : inM (RLb b) 70 k = true := by
  rcases (show b = 0 ∨ b = 1 by omega) with rfl | rfl
  · exact inM_1 (lo := 0) (hi := 47) (by omega) (by omega) (List.mem_of_getElem? (i := 2) rfl)
  · exact inM_1 (lo := 48) (hi := 95) (by omega) (by omega) (List.mem_of_getElem? (i := 2) rfl)
theorem rv_17 {K : pM} (hG : gI K) : vr (K 61 17).toNat = vr (70 + 1) := by
  obtain ⟨x, hx, e⟩ := hG.2 (61, 17, [71]) (List.mem_of_getElem? (i := 74) rfl)
  rw [List.mem_singleton.mp hx] at e
  rw [show K 61 17 = ((71 : Nat) : Int) from e]
  rfl
theorem gb_70 {M : pM} (hG : gI M) {k : Nat} (hk : k < 96) : 0 ≤ M 70 k ∧ M 70 k ≤ 20 := hG.1 70 k (0, 20) (fun _ => hk) (by rw [show (gl 70).length = 1 from rfl, Nat.mod_one]; rfl) (by decide)
theorem rl_71 {b k : Nat} (hb : b ≤ 1) (h1 : 6 * b ≤ k) (h2 : k ≤ 6 * b + 5) : inM (RLb b) 71 k = true := by
  rcases (show b = 0 ∨ b = 1 by omega) with rfl | rfl
  · exact inM_1 (lo := 0) (hi := 5) (by omega) (by omega) (List.mem_of_getElem? (i := 3) rfl)
  · exact inM_1 (lo := 6) (hi := 11) (by omega) (by omega) (List.mem_of_getElem? (i := 3) rfl)
theorem rv_18 {K : pM} (hG : gI K) : vr (K 61 18).toNat = vr (71 + 1) := by
  obtain ⟨x, hx, e⟩ := hG.2 (61, 18, [72]) (List.mem_of_getElem? (i := 75) rfl)
  rw [List.mem_singleton.mp hx] at e
  rw [show K 61 18 = ((72 : Nat) : Int) from e]
  rfl
theorem gb_71 {M : pM} (hG : gI M) {k : Nat} (hk : k < 12) : -1 ≤ M 71 k ∧ M 71 k ≤ 3 := hG.1 71 k (-1, 3) (fun _ => hk) (by rw [show (gl 71).length = 1 from rfl, Nat.mod_one]; rfl) (by decide)
theorem rl_72 {b k : Nat} (hb : b ≤ 1) (h1 : 6 * b ≤ k) (h2 : k ≤ 6 * b + 5) : inM (RLb b) 72 k = true := by
  rcases (show b = 0 ∨ b = 1 by omega) with rfl | rfl
  · exact inM_1 (lo := 0) (hi := 5) (by omega) (by omega) (List.mem_of_getElem? (i := 4) rfl)
  · exact inM_1 (lo := 6) (hi := 11) (by omega) (by omega) (List.mem_of_getElem? (i := 4) rfl)
theorem rv_19 {K : pM} (hG : gI K) : vr (K 61 19).toNat = vr (72 + 1) := by
  obtain ⟨x, hx, e⟩ := hG.2 (61, 19, [73]) (List.mem_of_getElem? (i := 76) rfl)
  rw [List.mem_singleton.mp hx] at e
  rw [show K 61 19 = ((73 : Nat) : Int) from e]
  rfl
theorem gb_72 {M : pM} (hG : gI M) {k : Nat} (hk : k < 12) : 0 ≤ M 72 k ∧ M 72 k ≤ 3 := hG.1 72 k (0, 3) (fun _ => hk) (by rw [show (gl 72).length = 1 from rfl, Nat.mod_one]; rfl) (by decide)
theorem rl_73 {b k : Nat} (hb : b ≤ 1) (h1 : 6 * b ≤ k) (h2 : k ≤ 6 * b + 5) : inM (RLb b) 73 k = true := by
  rcases (show b = 0 ∨ b = 1 by omega) with rfl | rfl
  · exact inM_1 (lo := 0) (hi := 5) (by omega) (by omega) (List.mem_of_getElem? (i := 5) rfl)
  · exact inM_1 (lo := 6) (hi := 11) (by omega) (by omega) (List.mem_of_getElem? (i := 5) rfl)
theorem rv_20 {K : pM} (hG : gI K) : vr (K 61 20).toNat = vr (73 + 1) := by
  obtain ⟨x, hx, e⟩ := hG.2 (61, 20, [74]) (List.mem_of_getElem? (i := 77) rfl)
  rw [List.mem_singleton.mp hx] at e
  rw [show K 61 20 = ((74 : Nat) : Int) from e]
  rfl
theorem gb_73 {M : pM} (hG : gI M) {k : Nat} (hk : k < 12) : -1 ≤ M 73 k ∧ M 73 k ≤ 40 := hG.1 73 k (-1, 40) (fun _ => hk) (by rw [show (gl 73).length = 1 from rfl, Nat.mod_one]; rfl) (by decide)
theorem rl_74 {b k : Nat} (hb : b ≤ 1) (h1 : 12 * b ≤ k) (h2 : k ≤ 12 * b + 11) : inM (RLb b) 74 k = true := by
  rcases (show b = 0 ∨ b = 1 by omega) with rfl | rfl
  · exact inM_1 (lo := 0) (hi := 11) (by omega) (by omega) (List.mem_of_getElem? (i := 7) rfl)
  · exact inM_1 (lo := 12) (hi := 23) (by omega) (by omega) (List.mem_of_getElem? (i := 7) rfl)
theorem rv_21 {K : pM} (hG : gI K) : vr (K 61 21).toNat = vr (74 + 1) := by
  obtain ⟨x, hx, e⟩ := hG.2 (61, 21, [75]) (List.mem_of_getElem? (i := 78) rfl)
  rw [List.mem_singleton.mp hx] at e
  rw [show K 61 21 = ((75 : Nat) : Int) from e]
  rfl
theorem gb_74 {M : pM} (hG : gI M) {k : Nat} (hk : k < 24) : 0 ≤ M 74 k ∧ M 74 k ≤ 63 := hG.1 74 k (0, 63) (fun _ => hk) (by rw [show (gl 74).length = 1 from rfl, Nat.mod_one]; rfl) (by decide)
theorem rl_75 {b k : Nat} (hb : b ≤ 1) (h1 : 12 * b ≤ k) (h2 : k ≤ 12 * b + 11) : inM (RLb b) 75 k = true := by
  rcases (show b = 0 ∨ b = 1 by omega) with rfl | rfl
  · exact inM_1 (lo := 0) (hi := 11) (by omega) (by omega) (List.mem_of_getElem? (i := 8) rfl)
  · exact inM_1 (lo := 12) (hi := 23) (by omega) (by omega) (List.mem_of_getElem? (i := 8) rfl)
theorem rv_22 {K : pM} (hG : gI K) : vr (K 61 22).toNat = vr (75 + 1) := by
  obtain ⟨x, hx, e⟩ := hG.2 (61, 22, [76]) (List.mem_of_getElem? (i := 79) rfl)
  rw [List.mem_singleton.mp hx] at e
  rw [show K 61 22 = ((76 : Nat) : Int) from e]
  rfl
theorem gb_75 {M : pM} (hG : gI M) {k : Nat} (hk : k < 24) : 0 ≤ M 75 k ∧ M 75 k ≤ 40 := hG.1 75 k (0, 40) (fun _ => hk) (by rw [show (gl 75).length = 1 from rfl, Nat.mod_one]; rfl) (by decide)
theorem rl_76 {b k : Nat} (hb : b ≤ 1) (h1 : 12 * b ≤ k) (h2 : k ≤ 12 * b + 11) : inM (RLb b) 76 k = true := by
  rcases (show b = 0 ∨ b = 1 by omega) with rfl | rfl
  · exact inM_1 (lo := 0) (hi := 11) (by omega) (by omega) (List.mem_of_getElem? (i := 9) rfl)
  · exact inM_1 (lo := 12) (hi := 23) (by omega) (by omega) (List.mem_of_getElem? (i := 9) rfl)
theorem rv_23 {K : pM} (hG : gI K) : vr (K 61 23).toNat = vr (76 + 1) := by
  obtain ⟨x, hx, e⟩ := hG.2 (61, 23, [77]) (List.mem_of_getElem? (i := 80) rfl)
  rw [List.mem_singleton.mp hx] at e
  rw [show K 61 23 = ((77 : Nat) : Int) from e]
  rfl
theorem gb_76 {M : pM} (hG : gI M) {k : Nat} (hk : k < 24) : 0 ≤ M 76 k ∧ M 76 k ≤ 36 := hG.1 76 k (0, 36) (fun _ => hk) (by rw [show (gl 76).length = 1 from rfl, Nat.mod_one]; rfl) (by decide)
theorem rl_77 {b k : Nat} (hb : b ≤ 1) (h1 : 12 * b ≤ k) (h2 : k ≤ 12 * b + 11) : inM (RLb b) 77 k = true := by
  rcases (show b = 0 ∨ b = 1 by omega) with rfl | rfl
  · exact inM_1 (lo := 0) (hi := 11) (by omega) (by omega) (List.mem_of_getElem? (i := 10) rfl)
  · exact inM_1 (lo := 12) (hi := 23) (by omega) (by omega) (List.mem_of_getElem? (i := 10) rfl)
theorem rv_24 {K : pM} (hG : gI K) : vr (K 61 24).toNat = vr (77 + 1) := by
  obtain ⟨x, hx, e⟩ := hG.2 (61, 24, [78]) (List.mem_of_getElem? (i := 81) rfl)
  rw [List.mem_singleton.mp hx] at e
  rw [show K 61 24 = ((78 : Nat) : Int) from e]
  rfl
theorem gb_77 {M : pM} (hG : gI M) {k : Nat} (hk : k < 24) : 0 ≤ M 77 k ∧ M 77 k ≤ 37 := hG.1 77 k (0, 37) (fun _ => hk) (by rw [show (gl 77).length = 1 from rfl, Nat.mod_one]; rfl) (by decide)
theorem rl_81 {b k : Nat} (hb : b ≤ 1) (h1 : 16 * b ≤ k) (h2 : k ≤ 16 * b + 15) : inM (RLb b) 81 k = true := by
  rcases (show b = 0 ∨ b = 1 by omega) with rfl | rfl
  · exact inM_1 (lo := 0) (hi := 15) (by omega) (by omega) (List.mem_of_getElem? (i := 11) rfl)
  · exact inM_1 (lo := 16) (hi := 31) (by omega) (by omega) (List.mem_of_getElem? (i := 11) rfl)
theorem rv_28 {K : pM} (hG : gI K) : vr (K 61 28).toNat = vr (81 + 1) := by
  obtain ⟨x, hx, e⟩ := hG.2 (61, 28, [82]) (List.mem_of_getElem? (i := 85) rfl)
  rw [List.mem_singleton.mp hx] at e
  rw [show K 61 28 = ((82 : Nat) : Int) from e]
  rfl
theorem gb_81 {M : pM} (hG : gI M) {k : Nat} (hk : k < 32) : 0 ≤ M 81 k ∧ M 81 k ≤ 30 := hG.1 81 k (0, 30) (fun _ => hk) (by rw [show (gl 81).length = 1 from rfl, Nat.mod_one]; rfl) (by decide)
theorem rl_65 {b k : Nat} (hb : b ≤ 1) (h1 : 1 * b ≤ k) (h2 : k ≤ 1 * b + 0) : inM (RLb b) 65 k = true := by
  rcases (show b = 0 ∨ b = 1 by omega) with rfl | rfl
  · exact inM_1 (lo := 0) (hi := 0) (by omega) (by omega) (List.mem_of_getElem? (i := 6) rfl)
  · exact inM_1 (lo := 1) (hi := 1) (by omega) (by omega) (List.mem_of_getElem? (i := 6) rfl)
theorem rv_12 {K : pM} (hG : gI K) : vr (K 61 12).toNat = vr (65 + 1) := by
  obtain ⟨x, hx, e⟩ := hG.2 (61, 12, [66]) (List.mem_of_getElem? (i := 69) rfl)
  rw [List.mem_singleton.mp hx] at e
  rw [show K 61 12 = ((66 : Nat) : Int) from e]
  rfl
theorem gb_65 {M : pM} (hG : gI M) {k : Nat} (hk : k < 2) : 0 ≤ M 65 k ∧ M 65 k ≤ 12 := hG.1 65 k (0, 12) (fun _ => hk) (by rw [show (gl 65).length = 1 from rfl, Nat.mod_one]; rfl) (by decide)
theorem rl_b {b : Nat} (hb : b ≤ 1) : inM (RLb b) 61 34 = true := by
  rcases (show b = 0 ∨ b = 1 by omega) with rfl | rfl <;> rfl
theorem tdv2 {a : Int} (h0 : 0 ≤ a) (h1 : a ≤ 2147483647) : w32 (a.tdiv 2) = a / 2 := by rw [Int.tdiv_eq_ediv_of_nonneg h0]; exact w32_id (by unfold r32; omega)
theorem tdv3 {a : Int} (h0 : 0 ≤ a) (h1 : a ≤ 2147483647) : w32 (a.tdiv 3) = a / 3 := by rw [Int.tdiv_eq_ediv_of_nonneg h0]; exact w32_id (by unfold r32; omega)
theorem tdv6 {a : Int} (h0 : 0 ≤ a) (h1 : a ≤ 2147483647) : w32 (a.tdiv 6) = a / 6 := by rw [Int.tdiv_eq_ediv_of_nonneg h0]; exact w32_id (by unfold r32; omega)
theorem tdv8 {a : Int} (h0 : 0 ≤ a) (h1 : a ≤ 2147483647) : w32 (a.tdiv 8) = a / 8 := by rw [Int.tdiv_eq_ediv_of_nonneg h0]; exact w32_id (by unfold r32; omega)
theorem U207 {b : Nat} (hb : b ≤ 1) {M : pM} (hM : gI M) (h34 : M 61 34 = (b : Int)) {c hr : Int} (c0 : 0 ≤ c) (c1 : c ≤ 63) (r0 : 0 ≤ hr) (r1 : hr ≤ 5) : ∃ v : Int, (0 ≤ v ∧ v ≤ 20) ∧ ∀ (r : Nat) (K : pM), gI K → agL (RLb b) M K → ∀ Q : pQ, Q (some (vi v)) K → mo (OJ (r + 1)) 207 [vr 62, vi c, vi hr] 119 K Q := by
  have hg := gb_69 hM (k := (64 * (b : Int) + c).toNat) (by omega)
  obtain ⟨gr, hgr⟩ : ∃ gr, gr = M 69 (64 * (b : Int) + c).toNat := ⟨_, rfl⟩
  rw [← hgr] at hg
  refine ⟨M 70 (48 * (b : Int) + 6 * gr + hr).toNat, gb_70 hM (by omega), fun r K hG ha Q hQ => ?_⟩
  have e34 : K 61 34 = (b : Int) := by rw [ha 61 34 (rl_b hb)]; exact h34
  rw [o_207]
  rw [s_207_0, s_207_1 (a := 61)]
  refine ⟨ob_61 (by decide), ?_⟩
  rw [rv_17 hG, s_207_4, s_207_6, s_207_7 (a := 61)]
  refine ⟨ob_61 (by decide), ?_⟩
  rw [e34, s_207_10]
  rw [w32_id (by unfold r32; omega)]
  rw [s_207_11, s_207_13, s_207_14 (a := 61)]
  refine ⟨ob_61 (by decide), ?_⟩
  rw [rv_16 hG, s_207_17, s_207_19, s_207_20 (a := 61)]
  refine ⟨ob_61 (by decide), ?_⟩
  rw [e34, s_207_23]
  rw [w32_id (by unfold r32; omega)]
  rw [s_207_24, s_207_25]
  rw [w32_id (by unfold r32; omega)]
  rw [s_207_26 (a := 69)]
  refine ⟨by omega, by rw [al_69 (by decide)]; omega, ?_⟩
  rw [ha 69 _ (rl_69 hb (by omega) (by omega))]
  rw [← hgr]
  rw [s_207_27]
  rw [w32_id (by unfold r32; omega)]
  rw [s_207_28]
  rw [w32_id (by unfold r32; omega)]
  rw [s_207_29, s_207_30]
  rw [w32_id (by unfold r32; omega)]
  rw [s_207_31 (a := 70)]
  refine ⟨by omega, by rw [al_70 (by decide)]; omega, ?_⟩
  rw [ha 70 _ (rl_70 hb (by omega) (by omega))]
  rw [s_207_32]
  exact ⟨rfl, hQ⟩
theorem L209_71 {b : Nat} (hb : b ≤ 1) {M : pM} (hM : gI M) (h34 : M 61 34 = (b : Int)) : ∀ (d : Nat) (k : Int), k + 1 = d → k ≤ 5 → ∃ v : Int, (-1 ≤ v ∧ v ≤ k) ∧ ∀ (r : Nat) (K : pM), gI K → agL (RLb b) M K → ∀ (Q : pQ) (l2 : Int), Q (some (vi v)) K → J (OJ r) 209 119 Q 2 [some (vr 62), some (vr (71 + 1)), some (vi l2), some (vi k)] [] 119 K := by
  intro d
  induction d with
  | zero =>
    intro k hk k5
    refine ⟨-1, by omega, fun r K hG ha Q l2 hQ => ?_⟩
    rw [s_209_2, s_209_3]
    refine ⟨fun _ => ?_, fun h => by omega⟩
    rw [s_209_26, s_209_27, show k = -1 by omega]
    exact ⟨rfl, hQ⟩
  | succ d ih =>
    intro k hk k5
    by_cases hv : 0 ≤ M 71 (6 * (b : Int) + k).toNat
    · refine ⟨k, by omega, fun r K hG ha Q l2 hQ => ?_⟩
      have e34 : K 61 34 = (b : Int) := by rw [ha 61 34 (rl_b hb)]; exact h34
      rw [s_209_2, s_209_3]
      refine ⟨fun h => by omega, fun _ => ?_⟩
      rw [s_209_6, s_209_7, s_209_9, s_209_10 (a := 61)]
      refine ⟨ob_61 (by decide), ?_⟩
      rw [e34, s_209_13]
      rw [w32_id (by unfold r32; omega)]
      rw [s_209_14, s_209_15]
      rw [w32_id (by unfold r32; omega)]
      rw [s_209_16 (a := 71)]
      refine ⟨by omega, by rw [al_71 (by decide)]; omega, ?_⟩
      rw [ha 71 _ (rl_71 hb (by omega) (by omega))]
      rw [s_209_17]
      refine ⟨fun _ => ?_, fun h => absurd hv h⟩
      rw [s_209_26, s_209_27]
      exact ⟨rfl, hQ⟩
    · obtain ⟨v, hv1, hv2⟩ := ih (k - 1) (by omega) (by omega)
      refine ⟨v, by omega, fun r K hG ha Q l2 hQ => ?_⟩
      have e34 : K 61 34 = (b : Int) := by rw [ha 61 34 (rl_b hb)]; exact h34
      rw [s_209_2, s_209_3]
      refine ⟨fun h => by omega, fun _ => ?_⟩
      rw [s_209_6, s_209_7, s_209_9, s_209_10 (a := 61)]
      refine ⟨ob_61 (by decide), ?_⟩
      rw [e34, s_209_13]
      rw [w32_id (by unfold r32; omega)]
      rw [s_209_14, s_209_15]
      rw [w32_id (by unfold r32; omega)]
      rw [s_209_16 (a := 71)]
      refine ⟨by omega, by rw [al_71 (by decide)]; omega, ?_⟩
      rw [ha 71 _ (rl_71 hb (by omega) (by omega))]
      rw [s_209_17]
      refine ⟨fun h => absurd h hv, fun _ => ?_⟩
      rw [s_209_20, s_209_23, w32_id (by unfold r32; omega)]
      exact hv2 r K hG ha Q l2 hQ
theorem U209_71 {b : Nat} (hb : b ≤ 1) {M : pM} (hM : gI M) (h34 : M 61 34 = (b : Int)) {hr : Int} (r0 : 0 ≤ hr) (r1 : hr ≤ 5) : ∃ v : Int, (-1 ≤ v ∧ v ≤ hr) ∧ ∀ (r : Nat) (K : pM), gI K → agL (RLb b) M K → ∀ Q : pQ, Q (some (vi v)) K → mo (OJ (r + 1)) 209 [vr 62, vr (71 + 1), vi hr] 119 K Q := by
  obtain ⟨v, h1, h2⟩ := L209_71 hb hM h34 (hr + 1).toNat hr (by omega) r1
  refine ⟨v, h1, fun r K hG ha Q hQ => ?_⟩
  rw [o_209, s_209_0, s_209_1]
  exact h2 r K hG ha Q hr hQ
theorem L209_73 {b : Nat} (hb : b ≤ 1) {M : pM} (hM : gI M) (h34 : M 61 34 = (b : Int)) : ∀ (d : Nat) (k : Int), k + 1 = d → k ≤ 5 → ∃ v : Int, (-1 ≤ v ∧ v ≤ k) ∧ ∀ (r : Nat) (K : pM), gI K → agL (RLb b) M K → ∀ (Q : pQ) (l2 : Int), Q (some (vi v)) K → J (OJ r) 209 119 Q 2 [some (vr 62), some (vr (73 + 1)), some (vi l2), some (vi k)] [] 119 K := by
  intro d
  induction d with
  | zero =>
    intro k hk k5
    refine ⟨-1, by omega, fun r K hG ha Q l2 hQ => ?_⟩
    rw [s_209_2, s_209_3]
    refine ⟨fun _ => ?_, fun h => by omega⟩
    rw [s_209_26, s_209_27, show k = -1 by omega]
    exact ⟨rfl, hQ⟩
  | succ d ih =>
    intro k hk k5
    by_cases hv : 0 ≤ M 73 (6 * (b : Int) + k).toNat
    · refine ⟨k, by omega, fun r K hG ha Q l2 hQ => ?_⟩
      have e34 : K 61 34 = (b : Int) := by rw [ha 61 34 (rl_b hb)]; exact h34
      rw [s_209_2, s_209_3]
      refine ⟨fun h => by omega, fun _ => ?_⟩
      rw [s_209_6, s_209_7, s_209_9, s_209_10 (a := 61)]
      refine ⟨ob_61 (by decide), ?_⟩
      rw [e34, s_209_13]
      rw [w32_id (by unfold r32; omega)]
      rw [s_209_14, s_209_15]
      rw [w32_id (by unfold r32; omega)]
      rw [s_209_16 (a := 73)]
      refine ⟨by omega, by rw [al_73 (by decide)]; omega, ?_⟩
      rw [ha 73 _ (rl_73 hb (by omega) (by omega))]
      rw [s_209_17]
      refine ⟨fun _ => ?_, fun h => absurd hv h⟩
      rw [s_209_26, s_209_27]
      exact ⟨rfl, hQ⟩
    · obtain ⟨v, hv1, hv2⟩ := ih (k - 1) (by omega) (by omega)
      refine ⟨v, by omega, fun r K hG ha Q l2 hQ => ?_⟩
      have e34 : K 61 34 = (b : Int) := by rw [ha 61 34 (rl_b hb)]; exact h34
      rw [s_209_2, s_209_3]
      refine ⟨fun h => by omega, fun _ => ?_⟩
      rw [s_209_6, s_209_7, s_209_9, s_209_10 (a := 61)]
      refine ⟨ob_61 (by decide), ?_⟩
      rw [e34, s_209_13]
      rw [w32_id (by unfold r32; omega)]
      rw [s_209_14, s_209_15]
      rw [w32_id (by unfold r32; omega)]
      rw [s_209_16 (a := 73)]
      refine ⟨by omega, by rw [al_73 (by decide)]; omega, ?_⟩
      rw [ha 73 _ (rl_73 hb (by omega) (by omega))]
      rw [s_209_17]
      refine ⟨fun h => absurd h hv, fun _ => ?_⟩
      rw [s_209_20, s_209_23, w32_id (by unfold r32; omega)]
      exact hv2 r K hG ha Q l2 hQ
theorem U209_73 {b : Nat} (hb : b ≤ 1) {M : pM} (hM : gI M) (h34 : M 61 34 = (b : Int)) {hr : Int} (r0 : 0 ≤ hr) (r1 : hr ≤ 5) : ∃ v : Int, (-1 ≤ v ∧ v ≤ hr) ∧ ∀ (r : Nat) (K : pM), gI K → agL (RLb b) M K → ∀ Q : pQ, Q (some (vi v)) K → mo (OJ (r + 1)) 209 [vr 62, vr (73 + 1), vi hr] 119 K Q := by
  obtain ⟨v, h1, h2⟩ := L209_73 hb hM h34 (hr + 1).toNat hr (by omega) r1
  refine ⟨v, h1, fun r K hG ha Q hQ => ?_⟩
  rw [o_209, s_209_0, s_209_1]
  exact h2 r K hG ha Q hr hQ
theorem U210 {b : Nat} (hb : b ≤ 1) {M : pM} (hM : gI M) (h34 : M 61 34 = (b : Int)) {hr : Int} (r0 : 0 ≤ hr) (r1 : hr ≤ 5) : ∃ v : Int, (-1 ≤ v ∧ v ≤ 3) ∧ ∀ (r : Nat) (K : pM), gI K → agL (RLb b) M K → ∀ Q : pQ, Q (some (vi v)) K → mo (OJ (r + 1 + 1)) 210 [vr 62, vi hr] 119 K Q := by
  obtain ⟨w, h1, h2⟩ := U209_71 hb hM h34 r0 r1
  have hgo : ∀ (r : Nat) (K : pM), gI K → agL (RLb b) M K → ∀ Q : pQ, J (OJ (r + 1)) 210 119 Q 9 [some (vr 62), some (vi hr), none] [vi w] 119 K → mo (OJ (r + 1 + 1)) 210 [vr 62, vi hr] 119 K Q := by
    intro r K hG ha Q hJ
    rw [o_210, s_210_0, s_210_1, s_210_2 (a := 61)]
    refine ⟨ob_61 (by decide), ?_⟩
    rw [rv_18 hG, s_210_5, s_210_6 (b := 61)]
    exact ⟨ob_61 (by decide), by rw [stk_n]; decide, h2 r K hG ha _ ⟨w, rfl, hJ⟩⟩
  by_cases hw : 0 ≤ w
  · refine ⟨M 71 (6 * (b : Int) + w).toNat, gb_71 hM (by omega), fun r K hG ha Q hQ => hgo r K hG ha Q ?_⟩
    have e34 : K 61 34 = (b : Int) := by rw [ha 61 34 (rl_b hb)]; exact h34
    rw [s_210_9, s_210_10, s_210_11]
    refine ⟨fun _ => ?_, fun h => absurd hw h⟩
    rw [s_210_18, s_210_19 (a := 61)]
    refine ⟨ob_61 (by decide), ?_⟩
    rw [rv_18 hG, s_210_22, s_210_24, s_210_25 (a := 61)]
    refine ⟨ob_61 (by decide), ?_⟩
    rw [e34, s_210_28]
    rw [w32_id (by unfold r32; omega)]
    rw [s_210_29, s_210_30]
    rw [w32_id (by unfold r32; omega)]
    rw [s_210_31 (a := 71)]
    refine ⟨by omega, by rw [al_71 (by decide)]; omega, ?_⟩
    rw [ha 71 _ (rl_71 hb (by omega) (by omega))]
    rw [s_210_32]
    exact ⟨rfl, hQ⟩
  · refine ⟨0, by omega, fun r K hG ha Q hQ => hgo r K hG ha Q ?_⟩
    rw [s_210_9, s_210_10, s_210_11]
    refine ⟨fun h => absurd h hw, fun _ => ?_⟩
    rw [s_210_14, s_210_15, s_210_32]
    exact ⟨rfl, hQ⟩
theorem U211 {b : Nat} (hb : b ≤ 1) {M : pM} (hM : gI M) (h34 : M 61 34 = (b : Int)) {hr : Int} (r0 : 0 ≤ hr) (r1 : hr ≤ 5) : ∃ v : Int, (0 ≤ v ∧ v ≤ 3) ∧ ∀ (r : Nat) (K : pM), gI K → agL (RLb b) M K → ∀ Q : pQ, Q (some (vi v)) K → mo (OJ (r + 1 + 1)) 211 [vr 62, vi hr] 119 K Q := by
  obtain ⟨w, h1, h2⟩ := U209_71 hb hM h34 r0 r1
  have hgo : ∀ (r : Nat) (K : pM), gI K → agL (RLb b) M K → ∀ Q : pQ, J (OJ (r + 1)) 211 119 Q 9 [some (vr 62), some (vi hr), none] [vi w] 119 K → mo (OJ (r + 1 + 1)) 211 [vr 62, vi hr] 119 K Q := by
    intro r K hG ha Q hJ
    rw [o_211, s_211_0, s_211_1, s_211_2 (a := 61)]
    refine ⟨ob_61 (by decide), ?_⟩
    rw [rv_18 hG, s_211_5, s_211_6 (b := 61)]
    exact ⟨ob_61 (by decide), by rw [stk_n]; decide, h2 r K hG ha _ ⟨w, rfl, hJ⟩⟩
  by_cases hw : 0 ≤ w
  · refine ⟨M 72 (6 * (b : Int) + w).toNat, gb_72 hM (by omega), fun r K hG ha Q hQ => hgo r K hG ha Q ?_⟩
    have e34 : K 61 34 = (b : Int) := by rw [ha 61 34 (rl_b hb)]; exact h34
    rw [s_211_9, s_211_10, s_211_11]
    refine ⟨fun _ => ?_, fun h => absurd hw h⟩
    rw [s_211_18, s_211_19 (a := 61)]
    refine ⟨ob_61 (by decide), ?_⟩
    rw [rv_19 hG, s_211_22, s_211_24, s_211_25 (a := 61)]
    refine ⟨ob_61 (by decide), ?_⟩
    rw [e34, s_211_28]
    rw [w32_id (by unfold r32; omega)]
    rw [s_211_29, s_211_30]
    rw [w32_id (by unfold r32; omega)]
    rw [s_211_31 (a := 72)]
    refine ⟨by omega, by rw [al_72 (by decide)]; omega, ?_⟩
    rw [ha 72 _ (rl_72 hb (by omega) (by omega))]
    rw [s_211_32]
    exact ⟨rfl, hQ⟩
  · refine ⟨0, by omega, fun r K hG ha Q hQ => hgo r K hG ha Q ?_⟩
    rw [s_211_9, s_211_10, s_211_11]
    refine ⟨fun h => absurd h hw, fun _ => ?_⟩
    rw [s_211_14, s_211_15, s_211_32]
    exact ⟨rfl, hQ⟩
theorem U212 {b : Nat} (hb : b ≤ 1) {M : pM} (hM : gI M) (h34 : M 61 34 = (b : Int)) {hr : Int} (r0 : 0 ≤ hr) (r1 : hr ≤ 5) : ∃ v : Int, (-1 ≤ v ∧ v ≤ 40) ∧ ∀ (r : Nat) (K : pM), gI K → agL (RLb b) M K → ∀ Q : pQ, Q (some (vi v)) K → mo (OJ (r + 1 + 1)) 212 [vr 62, vi hr] 119 K Q := by
  obtain ⟨w, h1, h2⟩ := U209_73 hb hM h34 r0 r1
  have hgo : ∀ (r : Nat) (K : pM), gI K → agL (RLb b) M K → ∀ Q : pQ, J (OJ (r + 1)) 212 119 Q 9 [some (vr 62), some (vi hr), none] [vi w] 119 K → mo (OJ (r + 1 + 1)) 212 [vr 62, vi hr] 119 K Q := by
    intro r K hG ha Q hJ
    rw [o_212, s_212_0, s_212_1, s_212_2 (a := 61)]
    refine ⟨ob_61 (by decide), ?_⟩
    rw [rv_20 hG, s_212_5, s_212_6 (b := 61)]
    exact ⟨ob_61 (by decide), by rw [stk_n]; decide, h2 r K hG ha _ ⟨w, rfl, hJ⟩⟩
  by_cases hw : 0 ≤ w
  · refine ⟨M 73 (6 * (b : Int) + w).toNat, gb_73 hM (by omega), fun r K hG ha Q hQ => hgo r K hG ha Q ?_⟩
    have e34 : K 61 34 = (b : Int) := by rw [ha 61 34 (rl_b hb)]; exact h34
    rw [s_212_9, s_212_10, s_212_11]
    refine ⟨fun _ => ?_, fun h => absurd hw h⟩
    rw [s_212_19, s_212_20 (a := 61)]
    refine ⟨ob_61 (by decide), ?_⟩
    rw [rv_20 hG, s_212_23, s_212_25, s_212_26 (a := 61)]
    refine ⟨ob_61 (by decide), ?_⟩
    rw [e34, s_212_29]
    rw [w32_id (by unfold r32; omega)]
    rw [s_212_30, s_212_31]
    rw [w32_id (by unfold r32; omega)]
    rw [s_212_32 (a := 73)]
    refine ⟨by omega, by rw [al_73 (by decide)]; omega, ?_⟩
    rw [ha 73 _ (rl_73 hb (by omega) (by omega))]
    rw [s_212_33]
    exact ⟨rfl, hQ⟩
  · refine ⟨40, by omega, fun r K hG ha Q hQ => hgo r K hG ha Q ?_⟩
    rw [s_212_9, s_212_10, s_212_11]
    refine ⟨fun h => absurd h hw, fun _ => ?_⟩
    rw [s_212_14, s_212_16, s_212_33]
    exact ⟨rfl, hQ⟩
theorem U220 {d : Int} (d0 : 0 ≤ d) (d1 : d ≤ 7) : ∃ v : Int, (-1 ≤ v ∧ v ≤ 1) ∧ ∀ (r : Nat) (K : pM) (Q : pQ), Q (some (vi v)) K → mo (OJ (r + 1)) 220 [vi d] 119 K Q := by
  have hd : d = 0 ∨ d = 1 ∨ d = 2 ∨ d = 3 ∨ d = 4 ∨ d = 5 ∨ d = 6 ∨ d = 7 := by omega
  rcases hd with rfl | rfl | rfl | rfl | rfl | rfl | rfl | rfl
  · refine ⟨0, by omega, fun r K Q hQ => ?_⟩
    rw [o_220]
    rw [s_220_0, s_220_1, s_220_2]
    refine ⟨fun h => ?_, fun h => absurd (by decide) h⟩
    rw [s_220_14, s_220_15, s_220_16]
    refine ⟨fun h => ?_, fun h => absurd (by decide) h⟩
    rw [s_220_23, s_220_24]
    exact ⟨rfl, hQ⟩
  · refine ⟨1, by omega, fun r K Q hQ => ?_⟩
    rw [o_220]
    rw [s_220_0, s_220_1, s_220_2]
    refine ⟨fun h => absurd h (by decide), fun h => ?_⟩
    rw [s_220_5, s_220_6, s_220_7]
    refine ⟨fun h => absurd h (by decide), fun h => ?_⟩
    rw [s_220_10, s_220_11, s_220_24]
    exact ⟨rfl, hQ⟩
  · refine ⟨1, by omega, fun r K Q hQ => ?_⟩
    rw [o_220]
    rw [s_220_0, s_220_1, s_220_2]
    refine ⟨fun h => absurd h (by decide), fun h => ?_⟩
    rw [s_220_5, s_220_6, s_220_7]
    refine ⟨fun h => absurd h (by decide), fun h => ?_⟩
    rw [s_220_10, s_220_11, s_220_24]
    exact ⟨rfl, hQ⟩
  · refine ⟨1, by omega, fun r K Q hQ => ?_⟩
    rw [o_220]
    rw [s_220_0, s_220_1, s_220_2]
    refine ⟨fun h => absurd h (by decide), fun h => ?_⟩
    rw [s_220_5, s_220_6, s_220_7]
    refine ⟨fun h => absurd h (by decide), fun h => ?_⟩
    rw [s_220_10, s_220_11, s_220_24]
    exact ⟨rfl, hQ⟩
  · refine ⟨0, by omega, fun r K Q hQ => ?_⟩
    rw [o_220]
    rw [s_220_0, s_220_1, s_220_2]
    refine ⟨fun h => absurd h (by decide), fun h => ?_⟩
    rw [s_220_5, s_220_6, s_220_7]
    refine ⟨fun h => ?_, fun h => absurd (by decide) h⟩
    rw [s_220_14, s_220_15, s_220_16]
    refine ⟨fun h => ?_, fun h => absurd (by decide) h⟩
    rw [s_220_23, s_220_24]
    exact ⟨rfl, hQ⟩
  · refine ⟨-1, by omega, fun r K Q hQ => ?_⟩
    rw [o_220]
    rw [s_220_0, s_220_1, s_220_2]
    refine ⟨fun h => absurd h (by decide), fun h => ?_⟩
    rw [s_220_5, s_220_6, s_220_7]
    refine ⟨fun h => ?_, fun h => absurd (by decide) h⟩
    rw [s_220_14, s_220_15, s_220_16]
    refine ⟨fun h => absurd h (by decide), fun h => ?_⟩
    rw [s_220_19, s_220_20, s_220_24]
    exact ⟨rfl, hQ⟩
  · refine ⟨-1, by omega, fun r K Q hQ => ?_⟩
    rw [o_220]
    rw [s_220_0, s_220_1, s_220_2]
    refine ⟨fun h => absurd h (by decide), fun h => ?_⟩
    rw [s_220_5, s_220_6, s_220_7]
    refine ⟨fun h => ?_, fun h => absurd (by decide) h⟩
    rw [s_220_14, s_220_15, s_220_16]
    refine ⟨fun h => absurd h (by decide), fun h => ?_⟩
    rw [s_220_19, s_220_20, s_220_24]
    exact ⟨rfl, hQ⟩
  · refine ⟨-1, by omega, fun r K Q hQ => ?_⟩
    rw [o_220]
    rw [s_220_0, s_220_1, s_220_2]
    refine ⟨fun h => absurd h (by decide), fun h => ?_⟩
    rw [s_220_5, s_220_6, s_220_7]
    refine ⟨fun h => ?_, fun h => absurd (by decide) h⟩
    rw [s_220_14, s_220_15, s_220_16]
    refine ⟨fun h => absurd h (by decide), fun h => ?_⟩
    rw [s_220_19, s_220_20, s_220_24]
    exact ⟨rfl, hQ⟩
theorem U221 {d : Int} (d0 : 0 ≤ d) (d1 : d ≤ 7) : ∃ v : Int, (-1 ≤ v ∧ v ≤ 1) ∧ ∀ (r : Nat) (K : pM) (Q : pQ), Q (some (vi v)) K → mo (OJ (r + 1)) 221 [vi d] 119 K Q := by
  have hd : d = 0 ∨ d = 1 ∨ d = 2 ∨ d = 3 ∨ d = 4 ∨ d = 5 ∨ d = 6 ∨ d = 7 := by omega
  rcases hd with rfl | rfl | rfl | rfl | rfl | rfl | rfl | rfl
  · refine ⟨-1, by omega, fun r K Q hQ => ?_⟩
    rw [o_221]
    rw [s_221_0, s_221_1, s_221_3]
    refine ⟨fun h => absurd h (by decide), fun h => ?_⟩
    rw [s_221_6, s_221_7, s_221_8]
    refine ⟨fun h => absurd h (by decide), fun h => ?_⟩
    rw [s_221_11, s_221_12, s_221_30]
    exact ⟨rfl, hQ⟩
  · refine ⟨-1, by omega, fun r K Q hQ => ?_⟩
    rw [o_221]
    rw [s_221_0, s_221_1, s_221_3]
    refine ⟨fun h => absurd h (by decide), fun h => ?_⟩
    rw [s_221_6, s_221_7, s_221_8]
    refine ⟨fun h => absurd h (by decide), fun h => ?_⟩
    rw [s_221_11, s_221_12, s_221_30]
    exact ⟨rfl, hQ⟩
  · refine ⟨0, by omega, fun r K Q hQ => ?_⟩
    rw [o_221]
    rw [s_221_0, s_221_1, s_221_3]
    refine ⟨fun h => absurd h (by decide), fun h => ?_⟩
    rw [s_221_6, s_221_7, s_221_8]
    refine ⟨fun h => ?_, fun h => absurd (by decide) h⟩
    rw [s_221_15, s_221_16, s_221_17]
    refine ⟨fun h => ?_, fun h => absurd (by decide) h⟩
    rw [s_221_29, s_221_30]
    exact ⟨rfl, hQ⟩
  · refine ⟨1, by omega, fun r K Q hQ => ?_⟩
    rw [o_221]
    rw [s_221_0, s_221_1, s_221_3]
    refine ⟨fun h => absurd h (by decide), fun h => ?_⟩
    rw [s_221_6, s_221_7, s_221_8]
    refine ⟨fun h => ?_, fun h => absurd (by decide) h⟩
    rw [s_221_15, s_221_16, s_221_17]
    refine ⟨fun h => absurd h (by decide), fun h => ?_⟩
    rw [s_221_20, s_221_21, s_221_22]
    refine ⟨fun h => absurd h (by decide), fun h => ?_⟩
    rw [s_221_25, s_221_26, s_221_30]
    exact ⟨rfl, hQ⟩
  · refine ⟨1, by omega, fun r K Q hQ => ?_⟩
    rw [o_221]
    rw [s_221_0, s_221_1, s_221_3]
    refine ⟨fun h => absurd h (by decide), fun h => ?_⟩
    rw [s_221_6, s_221_7, s_221_8]
    refine ⟨fun h => ?_, fun h => absurd (by decide) h⟩
    rw [s_221_15, s_221_16, s_221_17]
    refine ⟨fun h => absurd h (by decide), fun h => ?_⟩
    rw [s_221_20, s_221_21, s_221_22]
    refine ⟨fun h => absurd h (by decide), fun h => ?_⟩
    rw [s_221_25, s_221_26, s_221_30]
    exact ⟨rfl, hQ⟩
  · refine ⟨1, by omega, fun r K Q hQ => ?_⟩
    rw [o_221]
    rw [s_221_0, s_221_1, s_221_3]
    refine ⟨fun h => absurd h (by decide), fun h => ?_⟩
    rw [s_221_6, s_221_7, s_221_8]
    refine ⟨fun h => ?_, fun h => absurd (by decide) h⟩
    rw [s_221_15, s_221_16, s_221_17]
    refine ⟨fun h => absurd h (by decide), fun h => ?_⟩
    rw [s_221_20, s_221_21, s_221_22]
    refine ⟨fun h => absurd h (by decide), fun h => ?_⟩
    rw [s_221_25, s_221_26, s_221_30]
    exact ⟨rfl, hQ⟩
  · refine ⟨0, by omega, fun r K Q hQ => ?_⟩
    rw [o_221]
    rw [s_221_0, s_221_1, s_221_3]
    refine ⟨fun h => absurd h (by decide), fun h => ?_⟩
    rw [s_221_6, s_221_7, s_221_8]
    refine ⟨fun h => ?_, fun h => absurd (by decide) h⟩
    rw [s_221_15, s_221_16, s_221_17]
    refine ⟨fun h => absurd h (by decide), fun h => ?_⟩
    rw [s_221_20, s_221_21, s_221_22]
    refine ⟨fun h => ?_, fun h => absurd (by decide) h⟩
    rw [s_221_29, s_221_30]
    exact ⟨rfl, hQ⟩
  · refine ⟨-1, by omega, fun r K Q hQ => ?_⟩
    rw [o_221]
    rw [s_221_0, s_221_1, s_221_3]
    refine ⟨fun h => ?_, fun h => absurd (by decide) h⟩
    rw [s_221_11, s_221_12, s_221_30]
    exact ⟨rfl, hQ⟩
theorem L215 {b : Nat} (hb : b ≤ 1) {M : pM} (hM : gI M) (h34 : M 61 34 = (b : Int)) {x y z nW : Int} (hn : nW = M 65 ((b : Int)).toNat) : ∀ (d : Nat) (w : Int), 12 * (b : Int) + nW - w = d → 12 * (b : Int) ≤ w → ∃ s : Int, (s = 0 ∨ s = 1) ∧ ∀ (r : Nat) (K : pM), gI K → agL (RLb b) M K → ∀ Q : pQ, Q (some (vi s)) K → J (OJ r) 215 119 Q 9 [some (vr 62), some (vi x), some (vi y), some (vi z), some (vi w)] [] 119 K := by
  have hw := gb_65 hM (k := ((b : Int)).toNat) (by omega)
  rw [← hn] at hw
  intro d
  induction d with
  | zero =>
    intro w hd w0
    refine ⟨0, Or.inl rfl, fun r K hG ha Q hQ => ?_⟩
    have e34 : K 61 34 = (b : Int) := by rw [ha 61 34 (rl_b hb)]; exact h34
    rw [s_215_9, s_215_11, s_215_13, s_215_14 (a := 61)]
    refine ⟨ob_61 (by decide), ?_⟩
    rw [e34, s_215_17]
    rw [w32_id (by unfold r32; omega)]
    rw [s_215_18, s_215_19 (a := 61)]
    refine ⟨ob_61 (by decide), ?_⟩
    rw [rv_12 hG, s_215_22, s_215_23 (a := 61)]
    refine ⟨ob_61 (by decide), ?_⟩
    rw [e34, s_215_26 (a := 65)]
    refine ⟨by omega, by rw [al_65 (by decide)]; omega, ?_⟩
    rw [ha 65 _ (rl_65 hb (by omega) (by omega))]
    rw [s_215_27]
    rw [w32_id (by unfold r32; omega)]
    rw [← hn]
    rw [s_215_28]
    refine ⟨fun _ => ?_, fun h => absurd (by omega) h⟩
    rw [s_215_83, s_215_84]
    exact ⟨rfl, Or.inl rfl, hQ⟩
  | succ d ih =>
    intro w hd w0
    by_cases hit : M 74 w.toNat = x ∧ ¬ (z ≤ M 75 w.toNat) ∧ ¬ (y < M 76 w.toNat) ∧ ¬ (M 77 w.toNat ≤ y)
    · obtain ⟨t1, t2, t3, t4⟩ := hit
      refine ⟨1, Or.inr rfl, fun r K hG ha Q hQ => ?_⟩
      have e34 : K 61 34 = (b : Int) := by rw [ha 61 34 (rl_b hb)]; exact h34
      rw [s_215_9, s_215_11, s_215_13, s_215_14 (a := 61)]
      refine ⟨ob_61 (by decide), ?_⟩
      rw [e34, s_215_17]
      rw [w32_id (by unfold r32; omega)]
      rw [s_215_18, s_215_19 (a := 61)]
      refine ⟨ob_61 (by decide), ?_⟩
      rw [rv_12 hG, s_215_22, s_215_23 (a := 61)]
      refine ⟨ob_61 (by decide), ?_⟩
      rw [e34, s_215_26 (a := 65)]
      refine ⟨by omega, by rw [al_65 (by decide)]; omega, ?_⟩
      rw [ha 65 _ (rl_65 hb (by omega) (by omega))]
      rw [s_215_27]
      rw [w32_id (by unfold r32; omega)]
      rw [← hn]
      rw [s_215_28]
      refine ⟨fun h => absurd h (by omega), fun _ => ?_⟩
      rw [s_215_31, s_215_32 (a := 61)]
      refine ⟨ob_61 (by decide), ?_⟩
      rw [rv_21 hG, s_215_35, s_215_37 (a := 74)]
      refine ⟨by omega, by rw [al_74 (by decide)]; omega, ?_⟩
      rw [ha 74 _ (rl_74 hb (by omega) (by omega))]
      rw [s_215_38]
      rw [s_215_39]
      refine ⟨fun h => absurd t1 h, fun _ => ?_⟩
      rw [s_215_42, s_215_43, s_215_44 (a := 61)]
      refine ⟨ob_61 (by decide), ?_⟩
      rw [rv_22 hG, s_215_47, s_215_49 (a := 75)]
      refine ⟨by omega, by rw [al_75 (by decide)]; omega, ?_⟩
      rw [ha 75 _ (rl_75 hb (by omega) (by omega))]
      rw [s_215_50]
      refine ⟨fun h => absurd h t2, fun _ => ?_⟩
      rw [s_215_53, s_215_54, s_215_55 (a := 61)]
      refine ⟨ob_61 (by decide), ?_⟩
      rw [rv_23 hG, s_215_58, s_215_60 (a := 76)]
      refine ⟨by omega, by rw [al_76 (by decide)]; omega, ?_⟩
      rw [ha 76 _ (rl_76 hb (by omega) (by omega))]
      rw [s_215_61]
      refine ⟨fun h => absurd h t3, fun _ => ?_⟩
      rw [s_215_64, s_215_65, s_215_66 (a := 61)]
      refine ⟨ob_61 (by decide), ?_⟩
      rw [rv_24 hG, s_215_69, s_215_71 (a := 77)]
      refine ⟨by omega, by rw [al_77 (by decide)]; omega, ?_⟩
      rw [ha 77 _ (rl_77 hb (by omega) (by omega))]
      rw [s_215_72]
      refine ⟨fun h => absurd h t4, fun _ => ?_⟩
      rw [s_215_75, s_215_76]
      exact ⟨rfl, Or.inr rfl, hQ⟩
    · obtain ⟨s, hs, hgo⟩ := ih (w + 1) (by omega) (by omega)
      refine ⟨s, hs, fun r K hG ha Q hQ => ?_⟩
      have e34 : K 61 34 = (b : Int) := by rw [ha 61 34 (rl_b hb)]; exact h34
      have hn7 : J (OJ r) 215 119 Q 77 [some (vr 62), some (vi x), some (vi y), some (vi z), some (vi w)] [] 119 K := by
        rw [s_215_77, s_215_80, w32_id (by unfold r32; omega)]
        exact hgo r K hG ha Q hQ
      rw [s_215_9, s_215_11, s_215_13, s_215_14 (a := 61)]
      refine ⟨ob_61 (by decide), ?_⟩
      rw [e34, s_215_17]
      rw [w32_id (by unfold r32; omega)]
      rw [s_215_18, s_215_19 (a := 61)]
      refine ⟨ob_61 (by decide), ?_⟩
      rw [rv_12 hG, s_215_22, s_215_23 (a := 61)]
      refine ⟨ob_61 (by decide), ?_⟩
      rw [e34, s_215_26 (a := 65)]
      refine ⟨by omega, by rw [al_65 (by decide)]; omega, ?_⟩
      rw [ha 65 _ (rl_65 hb (by omega) (by omega))]
      rw [s_215_27]
      rw [w32_id (by unfold r32; omega)]
      rw [← hn]
      rw [s_215_28]
      refine ⟨fun h => absurd h (by omega), fun _ => ?_⟩
      rw [s_215_31, s_215_32 (a := 61)]
      refine ⟨ob_61 (by decide), ?_⟩
      rw [rv_21 hG, s_215_35, s_215_37 (a := 74)]
      refine ⟨by omega, by rw [al_74 (by decide)]; omega, ?_⟩
      rw [ha 74 _ (rl_74 hb (by omega) (by omega))]
      rw [s_215_38]
      rw [s_215_39]
      refine ⟨fun _ => hn7, fun t1 => ?_⟩
      rw [s_215_42, s_215_43, s_215_44 (a := 61)]
      refine ⟨ob_61 (by decide), ?_⟩
      rw [rv_22 hG, s_215_47, s_215_49 (a := 75)]
      refine ⟨by omega, by rw [al_75 (by decide)]; omega, ?_⟩
      rw [ha 75 _ (rl_75 hb (by omega) (by omega))]
      rw [s_215_50]
      refine ⟨fun _ => hn7, fun t2 => ?_⟩
      rw [s_215_53, s_215_54, s_215_55 (a := 61)]
      refine ⟨ob_61 (by decide), ?_⟩
      rw [rv_23 hG, s_215_58, s_215_60 (a := 76)]
      refine ⟨by omega, by rw [al_76 (by decide)]; omega, ?_⟩
      rw [ha 76 _ (rl_76 hb (by omega) (by omega))]
      rw [s_215_61]
      refine ⟨fun _ => hn7, fun t3 => ?_⟩
      rw [s_215_64, s_215_65, s_215_66 (a := 61)]
      refine ⟨ob_61 (by decide), ?_⟩
      rw [rv_24 hG, s_215_69, s_215_71 (a := 77)]
      refine ⟨by omega, by rw [al_77 (by decide)]; omega, ?_⟩
      rw [ha 77 _ (rl_77 hb (by omega) (by omega))]
      rw [s_215_72]
      exact ⟨fun _ => hn7, fun t4 => absurd ⟨Decidable.not_not.mp t1, t2, t3, t4⟩ hit⟩
theorem U215 {b : Nat} (hb : b ≤ 1) {M : pM} (hM : gI M) (h34 : M 61 34 = (b : Int)) (x y z : Int) : ∃ s : Int, (s = 0 ∨ s = 1) ∧ ∀ (r : Nat) (K : pM), gI K → agL (RLb b) M K → ∀ Q : pQ, Q (some (vi s)) K → mo (OJ (r + 1)) 215 [vr 62, vi x, vi y, vi z] 119 K Q := by
  have hw := gb_65 hM (k := ((b : Int)).toNat) (by omega)
  obtain ⟨s, hs, hgo⟩ := L215 hb hM h34 (x := x) (y := y) (z := z) rfl (M 65 ((b : Int)).toNat).toNat (12 * (b : Int)) (by omega) (Int.le_refl _)
  refine ⟨s, hs, fun r K hG ha Q hQ => ?_⟩
  have e34 : K 61 34 = (b : Int) := by rw [ha 61 34 (rl_b hb)]; exact h34
  rw [o_215]
  rw [s_215_0, s_215_2, s_215_3 (a := 61)]
  refine ⟨ob_61 (by decide), ?_⟩
  rw [e34, s_215_6]
  rw [w32_id (by unfold r32; omega)]
  rw [s_215_7]
  exact hgo r K hG ha Q hQ
theorem rv_39 {K : pM} (hG : gI K) : vr (K 61 39).toNat = vr (87 + 1) := by
  obtain ⟨x, hx, e⟩ := hG.2 (61, 39, [88]) (List.mem_of_getElem? (i := 91) rfl)
  rw [List.mem_singleton.mp hx] at e
  rw [show K 61 39 = ((88 : Nat) : Int) from e]
  rfl
theorem pt_87 {k : Nat} (h : k ≤ 3) : inM PTl 87 k = true := inM_1 (lo := 0) (hi := 3) (by omega) h (List.mem_cons_of_mem _ List.mem_cons_self)
theorem L227 {M : pM} {c : Int} (hp : 0 ≤ M 61 40 ∧ M 61 40 ≤ 3) : ∀ (d : Nat) (k : Int), 3 - k = d → 0 ≤ k → k ≤ M 61 40 → ∃ v : Int, (k ≤ v ∧ v ≤ M 61 40) ∧ ∀ (r : Nat) (K : pM), gI K → agL PTl M K → ∀ (Q : pQ) (l2 : Int), Q (some (vi v)) K → J (OJ r) 227 119 Q 2 [some (vr 62), some (vi c), some (vi l2), some (vi k)] [] 119 K := by
  intro d
  induction d with
  | zero =>
    intro k hd k0 k1
    refine ⟨k, by omega, fun r K hG ha Q l2 hQ => ?_⟩
    rw [s_227_2, s_227_3, s_227_4 (a := 61)]
    refine ⟨ob_61 (by decide), ?_⟩
    rw [ha 61 40 rfl, s_227_7]
    refine ⟨fun _ => ?_, fun h => absurd (by omega) h⟩
    rw [s_227_26, s_227_27]
    exact ⟨rfl, hQ⟩
  | succ d ih =>
    intro k hd k0 k1
    by_cases h1 : M 61 40 ≤ k
    · refine ⟨k, by omega, fun r K hG ha Q l2 hQ => ?_⟩
      rw [s_227_2, s_227_3, s_227_4 (a := 61)]
      refine ⟨ob_61 (by decide), ?_⟩
      rw [ha 61 40 rfl, s_227_7]
      refine ⟨fun _ => ?_, fun h => absurd h1 h⟩
      rw [s_227_26, s_227_27]
      exact ⟨rfl, hQ⟩
    · have hto : ∀ (r : Nat) (K : pM), gI K → agL PTl M K → ∀ (Q : pQ) (l2 : Int), J (OJ r) 227 119 Q 17 [some (vr 62), some (vi c), some (vi l2), some (vi k)] [vi c, vi (M 87 k.toNat)] 119 K → J (OJ r) 227 119 Q 2 [some (vr 62), some (vi c), some (vi l2), some (vi k)] [] 119 K := by
        intro r K hG ha Q l2 hJ
        rw [s_227_2, s_227_3, s_227_4 (a := 61)]
        refine ⟨ob_61 (by decide), ?_⟩
        rw [ha 61 40 rfl, s_227_7]
        refine ⟨fun h => absurd h h1, fun _ => ?_⟩
        rw [s_227_10, s_227_11 (a := 61)]
        refine ⟨ob_61 (by decide), ?_⟩
        rw [rv_39 hG, s_227_14, s_227_15 (a := 87)]
        refine ⟨by omega, by rw [al_87 (by decide)]; omega, ?_⟩
        rw [ha 87 _ (pt_87 (by omega)), s_227_16]
        exact hJ
      by_cases h2 : M 87 k.toNat = c
      · obtain ⟨v, hv, hgo⟩ := ih (k + 1) (by omega) (by omega) (by omega)
        refine ⟨v, by omega, fun r K hG ha Q l2 hQ => hto r K hG ha Q l2 ?_⟩
        rw [s_227_17]
        refine ⟨fun h => absurd h2 h, fun _ => ?_⟩
        rw [s_227_20, s_227_23, w32_id (by unfold r32; omega)]
        exact hgo r K hG ha Q l2 hQ
      · refine ⟨k, by omega, fun r K hG ha Q l2 hQ => hto r K hG ha Q l2 ?_⟩
        rw [s_227_17]
        refine ⟨fun _ => ?_, fun h => absurd h2 h⟩
        rw [s_227_26, s_227_27]
        exact ⟨rfl, hQ⟩
theorem U227 {M : pM} (hM : gI M) {c k : Int} (k0 : 0 ≤ k) (k1 : k ≤ M 61 40) : ∃ v : Int, rdT M c k v := by
  have hp : 0 ≤ M 61 40 ∧ M 61 40 ≤ 3 := hM.1 61 40 (0, 3) (fun _ => by decide +kernel) (by decide +kernel) (by decide)
  obtain ⟨v, hv, hgo⟩ := L227 (c := c) hp (3 - k).toNat k (by omega) k0 k1
  refine ⟨v, ⟨hv.1, hv.2, by omega⟩, fun N hN ha => ?_⟩
  have h : J (OJ 19) 227 119 (fun a N' => a = some (vi v) ∧ N' = N) 0 [some (vr 62), some (vi c), some (vi k), none] [] 119 N := by
    rw [s_227_0, s_227_1]
    exact hgo 19 N hN ha _ k ⟨rfl, rfl⟩
  exact ⟨by decide +kernel, Nat.le_of_ble_eq_true rfl, h⟩
