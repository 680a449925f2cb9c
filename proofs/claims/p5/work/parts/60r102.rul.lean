-- sg1
theorem cr_200 (M : pM) (s0 : Int) (b0 : 0 ≤ s0 ∧ s0 ≤ 255) (f0 : 0 ≤ ((-1) * s0 + 40)) (f1 : 0 ≤ (s0 - 40)) (hG : gI M) : (HP 70 (s0) (0 : Int) M ∧ True) := by
  have e : s0 = 40 := by omega
  subst e
  exact ⟨Eq.mpr hp_70 (by decide), trivial⟩
theorem rul_200 : Rul r_200 := by
  refine ⟨fun _ ρ M hm hB hF hG => ?_, fun gi gv hg => (by cases hg)⟩
  have H := cr_200 M (ρ 0) (hB _ List.mem_cons_self) (by have h := hF _ List.mem_cons_self; have h : 0 ≤ 40 + ((-1) * ρ 0 + 0) := h; omega) (by have h := hF _ (List.mem_cons_of_mem _ List.mem_cons_self); have h : 0 ≤ (-40) + (1 * ρ 0 + 0) := h; omega) hG
  obtain ⟨k0, -⟩ := H
  exact ⟨_, List.mem_cons_self, ρ, fun _ _ => rfl, (okM_c (pvp 70 (by show 0 + (1 * ρ 0 + 0) = _; omega) (by show 0 + 0 = _; omega) k0) okM_n), okB_n, okF_n⟩
-- ng3_0
theorem cr_201 (M : pM) (s0 : Int) (b0 : 0 ≤ s0 ∧ s0 ≤ 255) (m0 : HP 144 (2 : Int) (s0) M) (f0 : 0 ≤ ((-1) * s0 + 40)) (hG : gI M) : (HP 144 (3 : Int) (s0) M ∧ True) := by
  exact ⟨Eq.mpr hp_144 (fun k h1 h2 => if e : k = 2 then (by subst e; rw [show sgs.getD 2 0 = 41 by decide]; omega) else Eq.mp hp_144 m0 k h1 (by omega)), trivial⟩
theorem rul_201 : Rul r_201 := by
  refine ⟨fun _ ρ M hm hB hF hG => ?_, fun gi gv hg => (by cases hg)⟩
  have H := cr_201 M (ρ 0) (hB _ List.mem_cons_self) (cvp 144 (x' := (2 : Int)) (y' := ((ρ 0))) (by show 2 + 0 = _; omega) (by show 0 + (1 * ρ 0 + 0) = _; omega) (hm _ List.mem_cons_self)) (by have h := hF _ List.mem_cons_self; have h : 0 ≤ 40 + ((-1) * ρ 0 + 0) := h; omega) hG
  obtain ⟨k0, -⟩ := H
  exact ⟨_, List.mem_cons_self, ρ, fun _ _ => rfl, (okM_c (pvp 144 (by show 3 + 0 = _; omega) (by show 0 + (1 * ρ 0 + 0) = _; omega) k0) okM_n), okB_n, okF_n⟩
-- ng3_1
theorem cr_202 (M : pM) (s0 : Int) (b0 : 0 ≤ s0 ∧ s0 ≤ 255) (m0 : HP 144 (2 : Int) (s0) M) (f0 : 0 ≤ (s0 - 42)) (hG : gI M) : (HP 144 (3 : Int) (s0) M ∧ True) := by
  exact ⟨Eq.mpr hp_144 (fun k h1 h2 => if e : k = 2 then (by subst e; rw [show sgs.getD 2 0 = 41 by decide]; omega) else Eq.mp hp_144 m0 k h1 (by omega)), trivial⟩
theorem rul_202 : Rul r_202 := by
  refine ⟨fun _ ρ M hm hB hF hG => ?_, fun gi gv hg => (by cases hg)⟩
  have H := cr_202 M (ρ 0) (hB _ List.mem_cons_self) (cvp 144 (x' := (2 : Int)) (y' := ((ρ 0))) (by show 2 + 0 = _; omega) (by show 0 + (1 * ρ 0 + 0) = _; omega) (hm _ List.mem_cons_self)) (by have h := hF _ List.mem_cons_self; have h : 0 ≤ (-42) + (1 * ρ 0 + 0) := h; omega) hG
  obtain ⟨k0, -⟩ := H
  exact ⟨_, List.mem_cons_self, ρ, fun _ _ => rfl, (okM_c (pvp 144 (by show 3 + 0 = _; omega) (by show 0 + (1 * ρ 0 + 0) = _; omega) k0) okM_n), okB_n, okF_n⟩
-- sg2
theorem cr_203 (M : pM) (s0 : Int) (b0 : 0 ≤ s0 ∧ s0 ≤ 255) (f0 : 0 ≤ ((-1) * s0 + 41)) (f1 : 0 ≤ (s0 - 41)) (hG : gI M) : (HP 70 (s0) (0 : Int) M ∧ True) := by
  have e : s0 = 41 := by omega
  subst e
  exact ⟨Eq.mpr hp_70 (by decide), trivial⟩
theorem rul_203 : Rul r_203 := by
  refine ⟨fun _ ρ M hm hB hF hG => ?_, fun gi gv hg => (by cases hg)⟩
  have H := cr_203 M (ρ 0) (hB _ List.mem_cons_self) (by have h := hF _ List.mem_cons_self; have h : 0 ≤ 41 + ((-1) * ρ 0 + 0) := h; omega) (by have h := hF _ (List.mem_cons_of_mem _ List.mem_cons_self); have h : 0 ≤ (-41) + (1 * ρ 0 + 0) := h; omega) hG
  obtain ⟨k0, -⟩ := H
  exact ⟨_, List.mem_cons_self, ρ, fun _ _ => rfl, (okM_c (pvp 70 (by show 0 + (1 * ρ 0 + 0) = _; omega) (by show 0 + 0 = _; omega) k0) okM_n), okB_n, okF_n⟩
-- ng4_0
theorem cr_204 (M : pM) (s0 : Int) (b0 : 0 ≤ s0 ∧ s0 ≤ 255) (m0 : HP 144 (3 : Int) (s0) M) (f0 : 0 ≤ ((-1) * s0 + 59)) (hG : gI M) : (HP 144 (4 : Int) (s0) M ∧ True) := by
  exact ⟨Eq.mpr hp_144 (fun k h1 h2 => if e : k = 3 then (by subst e; rw [show sgs.getD 3 0 = 60 by decide]; omega) else Eq.mp hp_144 m0 k h1 (by omega)), trivial⟩
theorem rul_204 : Rul r_204 := by
  refine ⟨fun _ ρ M hm hB hF hG => ?_, fun gi gv hg => (by cases hg)⟩
  have H := cr_204 M (ρ 0) (hB _ List.mem_cons_self) (cvp 144 (x' := (3 : Int)) (y' := ((ρ 0))) (by show 3 + 0 = _; omega) (by show 0 + (1 * ρ 0 + 0) = _; omega) (hm _ List.mem_cons_self)) (by have h := hF _ List.mem_cons_self; have h : 0 ≤ 59 + ((-1) * ρ 0 + 0) := h; omega) hG
  obtain ⟨k0, -⟩ := H
  exact ⟨_, List.mem_cons_self, ρ, fun _ _ => rfl, (okM_c (pvp 144 (by show 4 + 0 = _; omega) (by show 0 + (1 * ρ 0 + 0) = _; omega) k0) okM_n), okB_n, okF_n⟩
-- ng4_1
theorem cr_205 (M : pM) (s0 : Int) (b0 : 0 ≤ s0 ∧ s0 ≤ 255) (m0 : HP 144 (3 : Int) (s0) M) (f0 : 0 ≤ (s0 - 61)) (hG : gI M) : (HP 144 (4 : Int) (s0) M ∧ True) := by
  exact ⟨Eq.mpr hp_144 (fun k h1 h2 => if e : k = 3 then (by subst e; rw [show sgs.getD 3 0 = 60 by decide]; omega) else Eq.mp hp_144 m0 k h1 (by omega)), trivial⟩
theorem rul_205 : Rul r_205 := by
  refine ⟨fun _ ρ M hm hB hF hG => ?_, fun gi gv hg => (by cases hg)⟩
  have H := cr_205 M (ρ 0) (hB _ List.mem_cons_self) (cvp 144 (x' := (3 : Int)) (y' := ((ρ 0))) (by show 3 + 0 = _; omega) (by show 0 + (1 * ρ 0 + 0) = _; omega) (hm _ List.mem_cons_self)) (by have h := hF _ List.mem_cons_self; have h : 0 ≤ (-61) + (1 * ρ 0 + 0) := h; omega) hG
  obtain ⟨k0, -⟩ := H
  exact ⟨_, List.mem_cons_self, ρ, fun _ _ => rfl, (okM_c (pvp 144 (by show 4 + 0 = _; omega) (by show 0 + (1 * ρ 0 + 0) = _; omega) k0) okM_n), okB_n, okF_n⟩
-- sg3
theorem cr_206 (M : pM) (s0 : Int) (b0 : 0 ≤ s0 ∧ s0 ≤ 255) (f0 : 0 ≤ ((-1) * s0 + 60)) (f1 : 0 ≤ (s0 - 60)) (hG : gI M) : (HP 70 (s0) (0 : Int) M ∧ True) := by
  have e : s0 = 60 := by omega
  subst e
  exact ⟨Eq.mpr hp_70 (by decide), trivial⟩
theorem rul_206 : Rul r_206 := by
  refine ⟨fun _ ρ M hm hB hF hG => ?_, fun gi gv hg => (by cases hg)⟩
  have H := cr_206 M (ρ 0) (hB _ List.mem_cons_self) (by have h := hF _ List.mem_cons_self; have h : 0 ≤ 60 + ((-1) * ρ 0 + 0) := h; omega) (by have h := hF _ (List.mem_cons_of_mem _ List.mem_cons_self); have h : 0 ≤ (-60) + (1 * ρ 0 + 0) := h; omega) hG
  obtain ⟨k0, -⟩ := H
  exact ⟨_, List.mem_cons_self, ρ, fun _ _ => rfl, (okM_c (pvp 70 (by show 0 + (1 * ρ 0 + 0) = _; omega) (by show 0 + 0 = _; omega) k0) okM_n), okB_n, okF_n⟩
-- ng5_0
theorem cr_207 (M : pM) (s0 : Int) (b0 : 0 ≤ s0 ∧ s0 ≤ 255) (m0 : HP 144 (4 : Int) (s0) M) (f0 : 0 ≤ ((-1) * s0 + 61)) (hG : gI M) : (HP 144 (5 : Int) (s0) M ∧ True) := by
  exact ⟨Eq.mpr hp_144 (fun k h1 h2 => if e : k = 4 then (by subst e; rw [show sgs.getD 4 0 = 62 by decide]; omega) else Eq.mp hp_144 m0 k h1 (by omega)), trivial⟩
theorem rul_207 : Rul r_207 := by
  refine ⟨fun _ ρ M hm hB hF hG => ?_, fun gi gv hg => (by cases hg)⟩
  have H := cr_207 M (ρ 0) (hB _ List.mem_cons_self) (cvp 144 (x' := (4 : Int)) (y' := ((ρ 0))) (by show 4 + 0 = _; omega) (by show 0 + (1 * ρ 0 + 0) = _; omega) (hm _ List.mem_cons_self)) (by have h := hF _ List.mem_cons_self; have h : 0 ≤ 61 + ((-1) * ρ 0 + 0) := h; omega) hG
  obtain ⟨k0, -⟩ := H
  exact ⟨_, List.mem_cons_self, ρ, fun _ _ => rfl, (okM_c (pvp 144 (by show 5 + 0 = _; omega) (by show 0 + (1 * ρ 0 + 0) = _; omega) k0) okM_n), okB_n, okF_n⟩
-- ng5_1
theorem cr_208 (M : pM) (s0 : Int) (b0 : 0 ≤ s0 ∧ s0 ≤ 255) (m0 : HP 144 (4 : Int) (s0) M) (f0 : 0 ≤ (s0 - 63)) (hG : gI M) : (HP 144 (5 : Int) (s0) M ∧ True) := by
  exact ⟨Eq.mpr hp_144 (fun k h1 h2 => if e : k = 4 then (by subst e; rw [show sgs.getD 4 0 = 62 by decide]; omega) else Eq.mp hp_144 m0 k h1 (by omega)), trivial⟩
theorem rul_208 : Rul r_208 := by
  refine ⟨fun _ ρ M hm hB hF hG => ?_, fun gi gv hg => (by cases hg)⟩
  have H := cr_208 M (ρ 0) (hB _ List.mem_cons_self) (cvp 144 (x' := (4 : Int)) (y' := ((ρ 0))) (by show 4 + 0 = _; omega) (by show 0 + (1 * ρ 0 + 0) = _; omega) (hm _ List.mem_cons_self)) (by have h := hF _ List.mem_cons_self; have h : 0 ≤ (-63) + (1 * ρ 0 + 0) := h; omega) hG
  obtain ⟨k0, -⟩ := H
  exact ⟨_, List.mem_cons_self, ρ, fun _ _ => rfl, (okM_c (pvp 144 (by show 5 + 0 = _; omega) (by show 0 + (1 * ρ 0 + 0) = _; omega) k0) okM_n), okB_n, okF_n⟩
-- sg4
theorem cr_209 (M : pM) (s0 : Int) (b0 : 0 ≤ s0 ∧ s0 ≤ 255) (f0 : 0 ≤ ((-1) * s0 + 62)) (f1 : 0 ≤ (s0 - 62)) (hG : gI M) : (HP 70 (s0) (0 : Int) M ∧ True) := by
  have e : s0 = 62 := by omega
  subst e
  exact ⟨Eq.mpr hp_70 (by decide), trivial⟩
theorem rul_209 : Rul r_209 := by
  refine ⟨fun _ ρ M hm hB hF hG => ?_, fun gi gv hg => (by cases hg)⟩
  have H := cr_209 M (ρ 0) (hB _ List.mem_cons_self) (by have h := hF _ List.mem_cons_self; have h : 0 ≤ 62 + ((-1) * ρ 0 + 0) := h; omega) (by have h := hF _ (List.mem_cons_of_mem _ List.mem_cons_self); have h : 0 ≤ (-62) + (1 * ρ 0 + 0) := h; omega) hG
  obtain ⟨k0, -⟩ := H
  exact ⟨_, List.mem_cons_self, ρ, fun _ _ => rfl, (okM_c (pvp 70 (by show 0 + (1 * ρ 0 + 0) = _; omega) (by show 0 + 0 = _; omega) k0) okM_n), okB_n, okF_n⟩
-- ng6_0
theorem cr_210 (M : pM) (s0 : Int) (b0 : 0 ≤ s0 ∧ s0 ≤ 255) (m0 : HP 144 (5 : Int) (s0) M) (f0 : 0 ≤ ((-1) * s0 + 60)) (hG : gI M) : (HP 144 (6 : Int) (s0) M ∧ True) := by
  exact ⟨Eq.mpr hp_144 (fun k h1 h2 => if e : k = 5 then (by subst e; rw [show sgs.getD 5 0 = 61 by decide]; omega) else Eq.mp hp_144 m0 k h1 (by omega)), trivial⟩
theorem rul_210 : Rul r_210 := by
  refine ⟨fun _ ρ M hm hB hF hG => ?_, fun gi gv hg => (by cases hg)⟩
  have H := cr_210 M (ρ 0) (hB _ List.mem_cons_self) (cvp 144 (x' := (5 : Int)) (y' := ((ρ 0))) (by show 5 + 0 = _; omega) (by show 0 + (1 * ρ 0 + 0) = _; omega) (hm _ List.mem_cons_self)) (by have h := hF _ List.mem_cons_self; have h : 0 ≤ 60 + ((-1) * ρ 0 + 0) := h; omega) hG
  obtain ⟨k0, -⟩ := H
  exact ⟨_, List.mem_cons_self, ρ, fun _ _ => rfl, (okM_c (pvp 144 (by show 6 + 0 = _; omega) (by show 0 + (1 * ρ 0 + 0) = _; omega) k0) okM_n), okB_n, okF_n⟩
-- ng6_1
theorem cr_211 (M : pM) (s0 : Int) (b0 : 0 ≤ s0 ∧ s0 ≤ 255) (m0 : HP 144 (5 : Int) (s0) M) (f0 : 0 ≤ (s0 - 62)) (hG : gI M) : (HP 144 (6 : Int) (s0) M ∧ True) := by
  exact ⟨Eq.mpr hp_144 (fun k h1 h2 => if e : k = 5 then (by subst e; rw [show sgs.getD 5 0 = 61 by decide]; omega) else Eq.mp hp_144 m0 k h1 (by omega)), trivial⟩
theorem rul_211 : Rul r_211 := by
  refine ⟨fun _ ρ M hm hB hF hG => ?_, fun gi gv hg => (by cases hg)⟩
  have H := cr_211 M (ρ 0) (hB _ List.mem_cons_self) (cvp 144 (x' := (5 : Int)) (y' := ((ρ 0))) (by show 5 + 0 = _; omega) (by show 0 + (1 * ρ 0 + 0) = _; omega) (hm _ List.mem_cons_self)) (by have h := hF _ List.mem_cons_self; have h : 0 ≤ (-62) + (1 * ρ 0 + 0) := h; omega) hG
  obtain ⟨k0, -⟩ := H
  exact ⟨_, List.mem_cons_self, ρ, fun _ _ => rfl, (okM_c (pvp 144 (by show 6 + 0 = _; omega) (by show 0 + (1 * ρ 0 + 0) = _; omega) k0) okM_n), okB_n, okF_n⟩
-- sg5
theorem cr_212 (M : pM) (s0 : Int) (b0 : 0 ≤ s0 ∧ s0 ≤ 255) (f0 : 0 ≤ ((-1) * s0 + 61)) (f1 : 0 ≤ (s0 - 61)) (hG : gI M) : (HP 70 (s0) (0 : Int) M ∧ True) := by
  have e : s0 = 61 := by omega
  subst e
  exact ⟨Eq.mpr hp_70 (by decide), trivial⟩
theorem rul_212 : Rul r_212 := by
  refine ⟨fun _ ρ M hm hB hF hG => ?_, fun gi gv hg => (by cases hg)⟩
  have H := cr_212 M (ρ 0) (hB _ List.mem_cons_self) (by have h := hF _ List.mem_cons_self; have h : 0 ≤ 61 + ((-1) * ρ 0 + 0) := h; omega) (by have h := hF _ (List.mem_cons_of_mem _ List.mem_cons_self); have h : 0 ≤ (-61) + (1 * ρ 0 + 0) := h; omega) hG
  obtain ⟨k0, -⟩ := H
  exact ⟨_, List.mem_cons_self, ρ, fun _ _ => rfl, (okM_c (pvp 70 (by show 0 + (1 * ρ 0 + 0) = _; omega) (by show 0 + 0 = _; omega) k0) okM_n), okB_n, okF_n⟩
-- ng7_0
theorem cr_213 (M : pM) (s0 : Int) (b0 : 0 ≤ s0 ∧ s0 ≤ 255) (m0 : HP 144 (6 : Int) (s0) M) (f0 : 0 ≤ ((-1) * s0 + 42)) (hG : gI M) : (HP 144 (7 : Int) (s0) M ∧ True) := by
  exact ⟨Eq.mpr hp_144 (fun k h1 h2 => if e : k = 6 then (by subst e; rw [show sgs.getD 6 0 = 43 by decide]; omega) else Eq.mp hp_144 m0 k h1 (by omega)), trivial⟩
theorem rul_213 : Rul r_213 := by
  refine ⟨fun _ ρ M hm hB hF hG => ?_, fun gi gv hg => (by cases hg)⟩
  have H := cr_213 M (ρ 0) (hB _ List.mem_cons_self) (cvp 144 (x' := (6 : Int)) (y' := ((ρ 0))) (by show 6 + 0 = _; omega) (by show 0 + (1 * ρ 0 + 0) = _; omega) (hm _ List.mem_cons_self)) (by have h := hF _ List.mem_cons_self; have h : 0 ≤ 42 + ((-1) * ρ 0 + 0) := h; omega) hG
  obtain ⟨k0, -⟩ := H
  exact ⟨_, List.mem_cons_self, ρ, fun _ _ => rfl, (okM_c (pvp 144 (by show 7 + 0 = _; omega) (by show 0 + (1 * ρ 0 + 0) = _; omega) k0) okM_n), okB_n, okF_n⟩
-- ng7_1
theorem cr_214 (M : pM) (s0 : Int) (b0 : 0 ≤ s0 ∧ s0 ≤ 255) (m0 : HP 144 (6 : Int) (s0) M) (f0 : 0 ≤ (s0 - 44)) (hG : gI M) : (HP 144 (7 : Int) (s0) M ∧ True) := by
  exact ⟨Eq.mpr hp_144 (fun k h1 h2 => if e : k = 6 then (by subst e; rw [show sgs.getD 6 0 = 43 by decide]; omega) else Eq.mp hp_144 m0 k h1 (by omega)), trivial⟩
theorem rul_214 : Rul r_214 := by
  refine ⟨fun _ ρ M hm hB hF hG => ?_, fun gi gv hg => (by cases hg)⟩
  have H := cr_214 M (ρ 0) (hB _ List.mem_cons_self) (cvp 144 (x' := (6 : Int)) (y' := ((ρ 0))) (by show 6 + 0 = _; omega) (by show 0 + (1 * ρ 0 + 0) = _; omega) (hm _ List.mem_cons_self)) (by have h := hF _ List.mem_cons_self; have h : 0 ≤ (-44) + (1 * ρ 0 + 0) := h; omega) hG
  obtain ⟨k0, -⟩ := H
  exact ⟨_, List.mem_cons_self, ρ, fun _ _ => rfl, (okM_c (pvp 144 (by show 7 + 0 = _; omega) (by show 0 + (1 * ρ 0 + 0) = _; omega) k0) okM_n), okB_n, okF_n⟩
-- sg6
theorem cr_215 (M : pM) (s0 : Int) (b0 : 0 ≤ s0 ∧ s0 ≤ 255) (f0 : 0 ≤ ((-1) * s0 + 43)) (f1 : 0 ≤ (s0 - 43)) (hG : gI M) : (HP 70 (s0) (0 : Int) M ∧ True) := by
  have e : s0 = 43 := by omega
  subst e
  exact ⟨Eq.mpr hp_70 (by decide), trivial⟩
theorem rul_215 : Rul r_215 := by
  refine ⟨fun _ ρ M hm hB hF hG => ?_, fun gi gv hg => (by cases hg)⟩
  have H := cr_215 M (ρ 0) (hB _ List.mem_cons_self) (by have h := hF _ List.mem_cons_self; have h : 0 ≤ 43 + ((-1) * ρ 0 + 0) := h; omega) (by have h := hF _ (List.mem_cons_of_mem _ List.mem_cons_self); have h : 0 ≤ (-43) + (1 * ρ 0 + 0) := h; omega) hG
  obtain ⟨k0, -⟩ := H
  exact ⟨_, List.mem_cons_self, ρ, fun _ _ => rfl, (okM_c (pvp 70 (by show 0 + (1 * ρ 0 + 0) = _; omega) (by show 0 + 0 = _; omega) k0) okM_n), okB_n, okF_n⟩
-- ng8_0
theorem cr_216 (M : pM) (s0 : Int) (b0 : 0 ≤ s0 ∧ s0 ≤ 255) (m0 : HP 144 (7 : Int) (s0) M) (f0 : 0 ≤ ((-1) * s0 + 44)) (hG : gI M) : (HP 144 (8 : Int) (s0) M ∧ True) := by
  exact ⟨Eq.mpr hp_144 (fun k h1 h2 => if e : k = 7 then (by subst e; rw [show sgs.getD 7 0 = 45 by decide]; omega) else Eq.mp hp_144 m0 k h1 (by omega)), trivial⟩
theorem rul_216 : Rul r_216 := by
  refine ⟨fun _ ρ M hm hB hF hG => ?_, fun gi gv hg => (by cases hg)⟩
  have H := cr_216 M (ρ 0) (hB _ List.mem_cons_self) (cvp 144 (x' := (7 : Int)) (y' := ((ρ 0))) (by show 7 + 0 = _; omega) (by show 0 + (1 * ρ 0 + 0) = _; omega) (hm _ List.mem_cons_self)) (by have h := hF _ List.mem_cons_self; have h : 0 ≤ 44 + ((-1) * ρ 0 + 0) := h; omega) hG
  obtain ⟨k0, -⟩ := H
  exact ⟨_, List.mem_cons_self, ρ, fun _ _ => rfl, (okM_c (pvp 144 (by show 8 + 0 = _; omega) (by show 0 + (1 * ρ 0 + 0) = _; omega) k0) okM_n), okB_n, okF_n⟩
-- ng8_1
theorem cr_217 (M : pM) (s0 : Int) (b0 : 0 ≤ s0 ∧ s0 ≤ 255) (m0 : HP 144 (7 : Int) (s0) M) (f0 : 0 ≤ (s0 - 46)) (hG : gI M) : (HP 144 (8 : Int) (s0) M ∧ True) := by
  exact ⟨Eq.mpr hp_144 (fun k h1 h2 => if e : k = 7 then (by subst e; rw [show sgs.getD 7 0 = 45 by decide]; omega) else Eq.mp hp_144 m0 k h1 (by omega)), trivial⟩
theorem rul_217 : Rul r_217 := by
  refine ⟨fun _ ρ M hm hB hF hG => ?_, fun gi gv hg => (by cases hg)⟩
  have H := cr_217 M (ρ 0) (hB _ List.mem_cons_self) (cvp 144 (x' := (7 : Int)) (y' := ((ρ 0))) (by show 7 + 0 = _; omega) (by show 0 + (1 * ρ 0 + 0) = _; omega) (hm _ List.mem_cons_self)) (by have h := hF _ List.mem_cons_self; have h : 0 ≤ (-46) + (1 * ρ 0 + 0) := h; omega) hG
  obtain ⟨k0, -⟩ := H
  exact ⟨_, List.mem_cons_self, ρ, fun _ _ => rfl, (okM_c (pvp 144 (by show 8 + 0 = _; omega) (by show 0 + (1 * ρ 0 + 0) = _; omega) k0) okM_n), okB_n, okF_n⟩
-- sg7
theorem cr_218 (M : pM) (s0 : Int) (b0 : 0 ≤ s0 ∧ s0 ≤ 255) (f0 : 0 ≤ ((-1) * s0 + 45)) (f1 : 0 ≤ (s0 - 45)) (hG : gI M) : (HP 70 (s0) (0 : Int) M ∧ True) := by
  have e : s0 = 45 := by omega
  subst e
  exact ⟨Eq.mpr hp_70 (by decide), trivial⟩
theorem rul_218 : Rul r_218 := by
  refine ⟨fun _ ρ M hm hB hF hG => ?_, fun gi gv hg => (by cases hg)⟩
  have H := cr_218 M (ρ 0) (hB _ List.mem_cons_self) (by have h := hF _ List.mem_cons_self; have h : 0 ≤ 45 + ((-1) * ρ 0 + 0) := h; omega) (by have h := hF _ (List.mem_cons_of_mem _ List.mem_cons_self); have h : 0 ≤ (-45) + (1 * ρ 0 + 0) := h; omega) hG
  obtain ⟨k0, -⟩ := H
  exact ⟨_, List.mem_cons_self, ρ, fun _ _ => rfl, (okM_c (pvp 70 (by show 0 + (1 * ρ 0 + 0) = _; omega) (by show 0 + 0 = _; omega) k0) okM_n), okB_n, okF_n⟩
-- ng9_0
theorem cr_219 (M : pM) (s0 : Int) (b0 : 0 ≤ s0 ∧ s0 ≤ 255) (m0 : HP 144 (8 : Int) (s0) M) (f0 : 0 ≤ ((-1) * s0 + 41)) (hG : gI M) : (HP 144 (9 : Int) (s0) M ∧ True) := by
  exact ⟨Eq.mpr hp_144 (fun k h1 h2 => if e : k = 8 then (by subst e; rw [show sgs.getD 8 0 = 42 by decide]; omega) else Eq.mp hp_144 m0 k h1 (by omega)), trivial⟩
theorem rul_219 : Rul r_219 := by
  refine ⟨fun _ ρ M hm hB hF hG => ?_, fun gi gv hg => (by cases hg)⟩
  have H := cr_219 M (ρ 0) (hB _ List.mem_cons_self) (cvp 144 (x' := (8 : Int)) (y' := ((ρ 0))) (by show 8 + 0 = _; omega) (by show 0 + (1 * ρ 0 + 0) = _; omega) (hm _ List.mem_cons_self)) (by have h := hF _ List.mem_cons_self; have h : 0 ≤ 41 + ((-1) * ρ 0 + 0) := h; omega) hG
  obtain ⟨k0, -⟩ := H
  exact ⟨_, List.mem_cons_self, ρ, fun _ _ => rfl, (okM_c (pvp 144 (by show 9 + 0 = _; omega) (by show 0 + (1 * ρ 0 + 0) = _; omega) k0) okM_n), okB_n, okF_n⟩
-- ng9_1
theorem cr_220 (M : pM) (s0 : Int) (b0 : 0 ≤ s0 ∧ s0 ≤ 255) (m0 : HP 144 (8 : Int) (s0) M) (f0 : 0 ≤ (s0 - 43)) (hG : gI M) : (HP 144 (9 : Int) (s0) M ∧ True) := by
  exact ⟨Eq.mpr hp_144 (fun k h1 h2 => if e : k = 8 then (by subst e; rw [show sgs.getD 8 0 = 42 by decide]; omega) else Eq.mp hp_144 m0 k h1 (by omega)), trivial⟩
theorem rul_220 : Rul r_220 := by
  refine ⟨fun _ ρ M hm hB hF hG => ?_, fun gi gv hg => (by cases hg)⟩
  have H := cr_220 M (ρ 0) (hB _ List.mem_cons_self) (cvp 144 (x' := (8 : Int)) (y' := ((ρ 0))) (by show 8 + 0 = _; omega) (by show 0 + (1 * ρ 0 + 0) = _; omega) (hm _ List.mem_cons_self)) (by have h := hF _ List.mem_cons_self; have h : 0 ≤ (-43) + (1 * ρ 0 + 0) := h; omega) hG
  obtain ⟨k0, -⟩ := H
  exact ⟨_, List.mem_cons_self, ρ, fun _ _ => rfl, (okM_c (pvp 144 (by show 9 + 0 = _; omega) (by show 0 + (1 * ρ 0 + 0) = _; omega) k0) okM_n), okB_n, okF_n⟩
-- sg8
theorem cr_221 (M : pM) (s0 : Int) (b0 : 0 ≤ s0 ∧ s0 ≤ 255) (f0 : 0 ≤ ((-1) * s0 + 42)) (f1 : 0 ≤ (s0 - 42)) (hG : gI M) : (HP 70 (s0) (0 : Int) M ∧ True) := by
  have e : s0 = 42 := by omega
  subst e
  exact ⟨Eq.mpr hp_70 (by decide), trivial⟩
theorem rul_221 : Rul r_221 := by
  refine ⟨fun _ ρ M hm hB hF hG => ?_, fun gi gv hg => (by cases hg)⟩
  have H := cr_221 M (ρ 0) (hB _ List.mem_cons_self) (by have h := hF _ List.mem_cons_self; have h : 0 ≤ 42 + ((-1) * ρ 0 + 0) := h; omega) (by have h := hF _ (List.mem_cons_of_mem _ List.mem_cons_self); have h : 0 ≤ (-42) + (1 * ρ 0 + 0) := h; omega) hG
  obtain ⟨k0, -⟩ := H
  exact ⟨_, List.mem_cons_self, ρ, fun _ _ => rfl, (okM_c (pvp 70 (by show 0 + (1 * ρ 0 + 0) = _; omega) (by show 0 + 0 = _; omega) k0) okM_n), okB_n, okF_n⟩
-- ng10_0
theorem cr_222 (M : pM) (s0 : Int) (b0 : 0 ≤ s0 ∧ s0 ≤ 255) (m0 : HP 144 (9 : Int) (s0) M) (f0 : 0 ≤ ((-1) * s0 + 46)) (hG : gI M) : (HP 144 (10 : Int) (s0) M ∧ True) := by
  exact ⟨Eq.mpr hp_144 (fun k h1 h2 => if e : k = 9 then (by subst e; rw [show sgs.getD 9 0 = 47 by decide]; omega) else Eq.mp hp_144 m0 k h1 (by omega)), trivial⟩
theorem rul_222 : Rul r_222 := by
  refine ⟨fun _ ρ M hm hB hF hG => ?_, fun gi gv hg => (by cases hg)⟩
  have H := cr_222 M (ρ 0) (hB _ List.mem_cons_self) (cvp 144 (x' := (9 : Int)) (y' := ((ρ 0))) (by show 9 + 0 = _; omega) (by show 0 + (1 * ρ 0 + 0) = _; omega) (hm _ List.mem_cons_self)) (by have h := hF _ List.mem_cons_self; have h : 0 ≤ 46 + ((-1) * ρ 0 + 0) := h; omega) hG
  obtain ⟨k0, -⟩ := H
  exact ⟨_, List.mem_cons_self, ρ, fun _ _ => rfl, (okM_c (pvp 144 (by show 10 + 0 = _; omega) (by show 0 + (1 * ρ 0 + 0) = _; omega) k0) okM_n), okB_n, okF_n⟩
-- ng10_1
theorem cr_223 (M : pM) (s0 : Int) (b0 : 0 ≤ s0 ∧ s0 ≤ 255) (m0 : HP 144 (9 : Int) (s0) M) (f0 : 0 ≤ (s0 - 48)) (hG : gI M) : (HP 144 (10 : Int) (s0) M ∧ True) := by
  exact ⟨Eq.mpr hp_144 (fun k h1 h2 => if e : k = 9 then (by subst e; rw [show sgs.getD 9 0 = 47 by decide]; omega) else Eq.mp hp_144 m0 k h1 (by omega)), trivial⟩
theorem rul_223 : Rul r_223 := by
  refine ⟨fun _ ρ M hm hB hF hG => ?_, fun gi gv hg => (by cases hg)⟩
  have H := cr_223 M (ρ 0) (hB _ List.mem_cons_self) (cvp 144 (x' := (9 : Int)) (y' := ((ρ 0))) (by show 9 + 0 = _; omega) (by show 0 + (1 * ρ 0 + 0) = _; omega) (hm _ List.mem_cons_self)) (by have h := hF _ List.mem_cons_self; have h : 0 ≤ (-48) + (1 * ρ 0 + 0) := h; omega) hG
  obtain ⟨k0, -⟩ := H
  exact ⟨_, List.mem_cons_self, ρ, fun _ _ => rfl, (okM_c (pvp 144 (by show 10 + 0 = _; omega) (by show 0 + (1 * ρ 0 + 0) = _; omega) k0) okM_n), okB_n, okF_n⟩
-- sg9
theorem cr_224 (M : pM) (s0 : Int) (b0 : 0 ≤ s0 ∧ s0 ≤ 255) (f0 : 0 ≤ ((-1) * s0 + 47)) (f1 : 0 ≤ (s0 - 47)) (hG : gI M) : (HP 70 (s0) (0 : Int) M ∧ True) := by
  have e : s0 = 47 := by omega
  subst e
  exact ⟨Eq.mpr hp_70 (by decide), trivial⟩
theorem rul_224 : Rul r_224 := by
  refine ⟨fun _ ρ M hm hB hF hG => ?_, fun gi gv hg => (by cases hg)⟩
  have H := cr_224 M (ρ 0) (hB _ List.mem_cons_self) (by have h := hF _ List.mem_cons_self; have h : 0 ≤ 47 + ((-1) * ρ 0 + 0) := h; omega) (by have h := hF _ (List.mem_cons_of_mem _ List.mem_cons_self); have h : 0 ≤ (-47) + (1 * ρ 0 + 0) := h; omega) hG
  obtain ⟨k0, -⟩ := H
  exact ⟨_, List.mem_cons_self, ρ, fun _ _ => rfl, (okM_c (pvp 70 (by show 0 + (1 * ρ 0 + 0) = _; omega) (by show 0 + 0 = _; omega) k0) okM_n), okB_n, okF_n⟩
-- qk0
theorem cr_225 (M : pM) (s0 : Int) (b0 : 0 ≤ s0 ∧ s0 ≤ 1900) (hG : gI M) : (HP 143 (2049 * s0) (0 : Int) M ∧ True) := by
  exact ⟨Eq.mpr hp_143 ⟨s0.toNat, 0, by omega, by omega, rfl, fun i hi => by omega⟩, trivial⟩
theorem rul_225 : Rul r_225 := by
  refine ⟨fun _ ρ M hm hB hF hG => ?_, fun gi gv hg => (by cases hg)⟩
  have H := cr_225 M (ρ 0) (hB _ List.mem_cons_self) hG
  obtain ⟨k0, -⟩ := H
  exact ⟨_, List.mem_cons_self, ρ, fun _ _ => rfl, (okM_c (pvp 143 (by show 0 + (2049 * ρ 0 + 0) = _; omega) (by show 0 + 0 = _; omega) k0) okM_n), okB_n, okF_n⟩
-- qkn
theorem cr_226 (M : pM) (s0 s1 s2 s3 s4 s5 : Int) (b0 : 0 ≤ s0 ∧ s0 ≤ 1900) (b1 : 0 ≤ s1 ∧ s1 ≤ 1900) (b2 : 0 ≤ s2 ∧ s2 ≤ 9223372036854775807) (b3 : 97 ≤ s3 ∧ s3 ≤ 122) (b4 : (-9223372036854775808) ≤ s4 ∧ s4 ≤ 9223372036854775807) (b5 : (-9223372036854775808) ≤ s5 ∧ s5 ≤ 9223372036854775807) (m0 : HP 143 (2048 * s0 + s1) (s2) M) (m1 : (0 ≤ (s1) ∧ M 1 (s1).toNat = (s3))) (m2 : HP 116 (4294967296 * s2 + 8) (s4) M) (m3 : HP 111 (s3 + 18446744073709551616 * s4) (s5) M) (f0 : 0 ≤ ((-1) * s0 + s1)) (f1 : 0 ≤ (s0 + (-1) * s1 + 7)) (hG : gI M) : (HP 143 (2048 * s0 + s1 + 1) (s5) M ∧ 0 ≤ (s5) ∧ True) := by
  obtain ⟨p1, p2, p3⟩ := pk_o (s := s0.toNat) (e := s1.toNat) (Eq.mp hp_143 m0) ⟨by omega, by omega, by omega⟩
  have hr := rd1 m1 (by omega)
  have p4 : ∀ i, i < s1.toNat - s0.toNat + 1 → 97 ≤ tm M 1 (s0.toNat + i) ∧ tm M 1 (s0.toNat + i) ≤ 122 := by
    intro i hi
    by_cases e : i = s1.toNat - s0.toNat
    · rw [show s0.toNat + i = s1.toNat by omega, hr]; omega
    · exact p3 i (by omega)
  have hb := pk_bd (m := 256) (a := 0) (hi := 122) (by decide) (by decide) (N := tm M) (s := s0.toNat) (k := s1.toNat - s0.toNat) (fun i hi => by have := p3 i hi; omega)
  have hb2 := pk_b2 (N := tm M) (s := s0.toNat) (k := s1.toNat - s0.toNat) (fun i hi => by have := p3 i hi; omega)
  have hp : (256 : Int) ^ (s1.toNat - s0.toNat) ≤ 72057594037927936 := by
    have : s1.toNat - s0.toNat ≤ 7 := by omega
    have h8 : ∀ k, k ≤ 7 → (256 : Int) ^ k ≤ 72057594037927936 := by decide
    exact h8 _ this
  have e1 := n_lshl (a := s2) (b := 8) m2 (by omega) (by unfold r32; omega)
  have e2 := n_lor (a := s4) (b := s3) m3 (by omega) (by unfold r64; omega)
  rw [l64_shl8 (by omega) (by omega)] at e1
  rw [e1, l64_or (by omega) (by omega) (by omega) (by omega)] at e2
  refine ⟨Eq.mpr hp_143 ⟨s0.toNat, s1.toNat - s0.toNat + 1, by omega, by omega, ?_, p4⟩, by omega, trivial⟩
  show s5 = 256 * pkd 256 0 (tm M) s0.toNat (s1.toNat - s0.toNat) + (tm M 1 (s0.toNat + (s1.toNat - s0.toNat)) - 0)
  rw [← p2, show s0.toNat + (s1.toNat - s0.toNat) = s1.toNat by omega, hr]
  omega
theorem rul_226 : Rul r_226 := by
  refine ⟨fun _ ρ M hm hB hF hG => ?_, fun gi gv hg => (by cases hg)⟩
  have H := cr_226 M (ρ 0) (ρ 1) (ρ 2) (ρ 3) (ρ 4) (ρ 5) (hB _ List.mem_cons_self) (hB _ (List.mem_cons_of_mem _ List.mem_cons_self)) (hB _ (List.mem_cons_of_mem _ (List.mem_cons_of_mem _ List.mem_cons_self))) (hB _ (List.mem_cons_of_mem _ (List.mem_cons_of_mem _ (List.mem_cons_of_mem _ List.mem_cons_self)))) (hB _ (List.mem_cons_of_mem _ (List.mem_cons_of_mem _ (List.mem_cons_of_mem _ (List.mem_cons_of_mem _ List.mem_cons_self))))) (hB _ (List.mem_cons_of_mem _ (List.mem_cons_of_mem _ (List.mem_cons_of_mem _ (List.mem_cons_of_mem _ (List.mem_cons_of_mem _ List.mem_cons_self)))))) (cvp 143 (x' := (2048 * (ρ 0) + (ρ 1))) (y' := ((ρ 2))) (by show 0 + (2048 * ρ 0 + (1 * ρ 1 + 0)) = _; omega) (by show 0 + (1 * ρ 2 + 0) = _; omega) (hm _ List.mem_cons_self)) (cvm (c := 1) (by decide) (x' := ((ρ 1))) (y' := ((ρ 3))) (by show 0 + (1 * ρ 1 + 0) = _; omega) (by show 0 + (1 * ρ 3 + 0) = _; omega) (hm _ (List.mem_cons_of_mem _ List.mem_cons_self))) (cvp 116 (x' := (4294967296 * (ρ 2) + 8)) (y' := ((ρ 4))) (by show 8 + (4294967296 * ρ 2 + 0) = _; omega) (by show 0 + (1 * ρ 4 + 0) = _; omega) (hm _ (List.mem_cons_of_mem _ (List.mem_cons_of_mem _ List.mem_cons_self)))) (cvp 111 (x' := ((ρ 3) + 18446744073709551616 * (ρ 4))) (y' := ((ρ 5))) (by show 0 + (1 * ρ 3 + (18446744073709551616 * ρ 4 + 0)) = _; omega) (by show 0 + (1 * ρ 5 + 0) = _; omega) (hm _ (List.mem_cons_of_mem _ (List.mem_cons_of_mem _ (List.mem_cons_of_mem _ List.mem_cons_self))))) (by have h := hF _ List.mem_cons_self; have h : 0 ≤ 0 + ((-1) * ρ 0 + (1 * ρ 1 + 0)) := h; omega) (by have h := hF _ (List.mem_cons_of_mem _ List.mem_cons_self); have h : 0 ≤ 7 + (1 * ρ 0 + ((-1) * ρ 1 + 0)) := h; omega) hG
  obtain ⟨k0, f0, -⟩ := H
  exact ⟨_, List.mem_cons_self, ρ, fun _ _ => rfl, (okM_c (pvp 143 (by show 1 + (2048 * ρ 0 + (1 * ρ 1 + 0)) = _; omega) (by show 0 + (1 * ρ 5 + 0) = _; omega) k0) okM_n), okB_n, (okF_c (by show 0 ≤ 0 + (1 * ρ 5 + 0); omega) okF_n)⟩
-- qkx
theorem cr_227 (M : pM) (s0 s1 s2 : Int) (b0 : 0 ≤ s0 ∧ s0 ≤ 3893100) (b1 : 0 ≤ s1 ∧ s1 ≤ 3893100) (b2 : 0 ≤ s2 ∧ s2 ≤ 9223372036854775807) (m0 : HP 143 (s0) (s2) M) (f0 : 0 ≤ ((-1) * s0 + s1)) (f1 : 0 ≤ (s0 + (-1) * s1)) (hG : gI M) : (HP 143 (s1) (s2) M ∧ True) := by
  have e : s0 = s1 := by omega
  subst e
  exact ⟨m0, trivial⟩
theorem rul_227 : Rul r_227 := by
  refine ⟨fun _ ρ M hm hB hF hG => ?_, fun gi gv hg => (by cases hg)⟩
  have H := cr_227 M (ρ 0) (ρ 1) (ρ 2) (hB _ List.mem_cons_self) (hB _ (List.mem_cons_of_mem _ List.mem_cons_self)) (hB _ (List.mem_cons_of_mem _ (List.mem_cons_of_mem _ List.mem_cons_self))) (cvp 143 (x' := ((ρ 0))) (y' := ((ρ 2))) (by show 0 + (1 * ρ 0 + 0) = _; omega) (by show 0 + (1 * ρ 2 + 0) = _; omega) (hm _ List.mem_cons_self)) (by have h := hF _ List.mem_cons_self; have h : 0 ≤ 0 + ((-1) * ρ 0 + (1 * ρ 1 + 0)) := h; omega) (by have h := hF _ (List.mem_cons_of_mem _ List.mem_cons_self); have h : 0 ≤ 0 + (1 * ρ 0 + ((-1) * ρ 1 + 0)) := h; omega) hG
  obtain ⟨k0, -⟩ := H
  exact ⟨_, List.mem_cons_self, ρ, fun _ _ => rfl, (okM_c (pvp 143 (by show 0 + (1 * ρ 1 + 0) = _; omega) (by show 0 + (1 * ρ 2 + 0) = _; omega) k0) okM_n), okB_n, okF_n⟩
-- tkL2
theorem cr_228 (M : pM) (s0 s1 s2 s3 : Int) (b0 : 0 ≤ s0 ∧ s0 ≤ 1900) (b1 : 0 ≤ s1 ∧ s1 ≤ 1900) (b2 : 0 ≤ s2 ∧ s2 ≤ 1900) (b3 : 0 ≤ s3 ∧ s3 ≤ 1900) (m0 : (0 ≤ (1 : Int) ∧ M 2 (1 : Int).toNat = (s2))) (m1 : HP 44 (s0) (s1) M) (m2 : HP 44 (s1 + 2048) (s3) M) (f0 : 0 ≤ ((-1) * s1 + s2 - 1)) (f1 : 0 ≤ ((-1) * s1 + s3 - 9)) (hG : gI M) : (HP 45 (s0) (s1) M ∧ HP 46 (s0) (s3) M ∧ HP 47 (s0) (-1 : Int) M ∧ True) := by
  have hn := tn_o m0 b2
  have e0 := ru_o (P := 0) (p := s0.toNat) m1 ⟨by omega, by decide, by omega⟩
  have e1 := ru_o (P := 1) (p := s1.toNat) m2 ⟨by omega, by decide, by omega⟩
  exact tk_fin (tk_long (p := s0.toNat) (s := s1.toNat) (e := s3.toNat) (by omega) (by omega) (by omega) (by omega)) (by omega) (by omega) (by omega) (by omega)
theorem rul_228 : Rul r_228 := by
  refine ⟨fun _ ρ M hm hB hF hG => ?_, fun gi gv hg => (by cases hg)⟩
  have H := cr_228 M (ρ 0) (ρ 1) (ρ 2) (ρ 3) (hB _ List.mem_cons_self) (hB _ (List.mem_cons_of_mem _ List.mem_cons_self)) (hB _ (List.mem_cons_of_mem _ (List.mem_cons_of_mem _ List.mem_cons_self))) (hB _ (List.mem_cons_of_mem _ (List.mem_cons_of_mem _ (List.mem_cons_of_mem _ List.mem_cons_self)))) (cvm (c := 2) (by decide) (x' := (1 : Int)) (y' := ((ρ 2))) (by show 1 + 0 = _; omega) (by show 0 + (1 * ρ 2 + 0) = _; omega) (hm _ List.mem_cons_self)) (cvp 44 (x' := ((ρ 0))) (y' := ((ρ 1))) (by show 0 + (1 * ρ 0 + 0) = _; omega) (by show 0 + (1 * ρ 1 + 0) = _; omega) (hm _ (List.mem_cons_of_mem _ List.mem_cons_self))) (cvp 44 (x' := ((ρ 1) + 2048)) (y' := ((ρ 3))) (by show 2048 + (1 * ρ 1 + 0) = _; omega) (by show 0 + (1 * ρ 3 + 0) = _; omega) (hm _ (List.mem_cons_of_mem _ (List.mem_cons_of_mem _ List.mem_cons_self)))) (by have h := hF _ List.mem_cons_self; have h : 0 ≤ (-1) + ((-1) * ρ 1 + (1 * ρ 2 + 0)) := h; omega) (by have h := hF _ (List.mem_cons_of_mem _ List.mem_cons_self); have h : 0 ≤ (-9) + ((-1) * ρ 1 + (1 * ρ 3 + 0)) := h; omega) hG
  obtain ⟨k0, k1, k2, -⟩ := H
  exact ⟨_, List.mem_cons_self, ρ, fun _ _ => rfl, (okM_c (pvp 45 (by show 0 + (1 * ρ 0 + 0) = _; omega) (by show 0 + (1 * ρ 1 + 0) = _; omega) k0) (okM_c (pvp 46 (by show 0 + (1 * ρ 0 + 0) = _; omega) (by show 0 + (1 * ρ 3 + 0) = _; omega) k1) (okM_c (pvp 47 (by show 0 + (1 * ρ 0 + 0) = _; omega) (by show (-1) + 0 = _; omega) k2) okM_n))), okB_n, okF_n⟩
-- tkK
theorem cr_229 (M : pM) (s0 s1 s2 s3 s4 s5 : Int) (b0 : 0 ≤ s0 ∧ s0 ≤ 1900) (b1 : 0 ≤ s1 ∧ s1 ≤ 1900) (b2 : 0 ≤ s2 ∧ s2 ≤ 1900) (b3 : 0 ≤ s3 ∧ s3 ≤ 1900) (b4 : 0 ≤ s4 ∧ s4 ≤ 9223372036854775807) (b5 : 0 ≤ s5 ∧ s5 ≤ 23) (m0 : (0 ≤ (1 : Int) ∧ M 2 (1 : Int).toNat = (s2))) (m1 : HP 44 (s0) (s1) M) (m2 : HP 44 (s1 + 2048) (s3) M) (m3 : HP 143 (2048 * s1 + s3) (s4) M) (m4 : HP 140 (s5) (s4) M) (f0 : 0 ≤ ((-1) * s1 + s2 - 1)) (f1 : 0 ≤ ((-1) * s1 + s3 - 1)) (f2 : 0 ≤ (s1 + (-1) * s3 + 8)) (hG : gI M) : (HP 45 (s0) (s1) M ∧ HP 46 (s0) (s3) M ∧ HP 47 (s0) (s5 + 262144) M ∧ True) := by
  have hn := tn_o m0 b2
  have e0 := ru_o (P := 0) (p := s0.toNat) m1 ⟨by omega, by decide, by omega⟩
  have e1 := ru_o (P := 1) (p := s1.toNat) m2 ⟨by omega, by decide, by omega⟩
  obtain ⟨p1, p2, p3⟩ := pk_o (s := s1.toNat) (e := s3.toNat) (Eq.mp hp_143 m3) ⟨by omega, by omega, by omega⟩
  obtain ⟨k, w1, w2, w3⟩ := Eq.mp hp_140 m4
  have w := qk_wid (N := tm M) (s := s1.toNat) (e := s3.toNat) w1 p3 (by omega)
  rw [wid_ag agtm (by omega) (by omega)] at w
  exact tk_fin (tk_word (p := s0.toNat) (s := s1.toNat) (e := s3.toNat) (by omega) (by omega) (by omega) (by omega) (by omega)) (by omega) (by omega) (by omega) (by omega)
theorem rul_229 : Rul r_229 := by
  refine ⟨fun _ ρ M hm hB hF hG => ?_, fun gi gv hg => (by cases hg)⟩
  have H := cr_229 M (ρ 0) (ρ 1) (ρ 2) (ρ 3) (ρ 4) (ρ 5) (hB _ List.mem_cons_self) (hB _ (List.mem_cons_of_mem _ List.mem_cons_self)) (hB _ (List.mem_cons_of_mem _ (List.mem_cons_of_mem _ List.mem_cons_self))) (hB _ (List.mem_cons_of_mem _ (List.mem_cons_of_mem _ (List.mem_cons_of_mem _ List.mem_cons_self)))) (hB _ (List.mem_cons_of_mem _ (List.mem_cons_of_mem _ (List.mem_cons_of_mem _ (List.mem_cons_of_mem _ List.mem_cons_self))))) (hB _ (List.mem_cons_of_mem _ (List.mem_cons_of_mem _ (List.mem_cons_of_mem _ (List.mem_cons_of_mem _ (List.mem_cons_of_mem _ List.mem_cons_self)))))) (cvm (c := 2) (by decide) (x' := (1 : Int)) (y' := ((ρ 2))) (by show 1 + 0 = _; omega) (by show 0 + (1 * ρ 2 + 0) = _; omega) (hm _ List.mem_cons_self)) (cvp 44 (x' := ((ρ 0))) (y' := ((ρ 1))) (by show 0 + (1 * ρ 0 + 0) = _; omega) (by show 0 + (1 * ρ 1 + 0) = _; omega) (hm _ (List.mem_cons_of_mem _ List.mem_cons_self))) (cvp 44 (x' := ((ρ 1) + 2048)) (y' := ((ρ 3))) (by show 2048 + (1 * ρ 1 + 0) = _; omega) (by show 0 + (1 * ρ 3 + 0) = _; omega) (hm _ (List.mem_cons_of_mem _ (List.mem_cons_of_mem _ List.mem_cons_self)))) (cvp 143 (x' := (2048 * (ρ 1) + (ρ 3))) (y' := ((ρ 4))) (by show 0 + (2048 * ρ 1 + (1 * ρ 3 + 0)) = _; omega) (by show 0 + (1 * ρ 4 + 0) = _; omega) (hm _ (List.mem_cons_of_mem _ (List.mem_cons_of_mem _ (List.mem_cons_of_mem _ List.mem_cons_self))))) (cvp 140 (x' := ((ρ 5))) (y' := ((ρ 4))) (by show 0 + (1 * ρ 5 + 0) = _; omega) (by show 0 + (1 * ρ 4 + 0) = _; omega) (hm _ (List.mem_cons_of_mem _ (List.mem_cons_of_mem _ (List.mem_cons_of_mem _ (List.mem_cons_of_mem _ List.mem_cons_self)))))) (by have h := hF _ List.mem_cons_self; have h : 0 ≤ (-1) + ((-1) * ρ 1 + (1 * ρ 2 + 0)) := h; omega) (by have h := hF _ (List.mem_cons_of_mem _ List.mem_cons_self); have h : 0 ≤ (-1) + ((-1) * ρ 1 + (1 * ρ 3 + 0)) := h; omega) (by have h := hF _ (List.mem_cons_of_mem _ (List.mem_cons_of_mem _ List.mem_cons_self)); have h : 0 ≤ 8 + (1 * ρ 1 + ((-1) * ρ 3 + 0)) := h; omega) hG
  obtain ⟨k0, k1, k2, -⟩ := H
  exact ⟨_, List.mem_cons_self, ρ, fun _ _ => rfl, (okM_c (pvp 45 (by show 0 + (1 * ρ 0 + 0) = _; omega) (by show 0 + (1 * ρ 1 + 0) = _; omega) k0) (okM_c (pvp 46 (by show 0 + (1 * ρ 0 + 0) = _; omega) (by show 0 + (1 * ρ 3 + 0) = _; omega) k1) (okM_c (pvp 47 (by show 0 + (1 * ρ 0 + 0) = _; omega) (by show 262144 + (1 * ρ 5 + 0) = _; omega) k2) okM_n))), okB_n, okF_n⟩
-- tkA
theorem cr_230 (M : pM) (s0 s1 s2 s3 s4 : Int) (b0 : 0 ≤ s0 ∧ s0 ≤ 1900) (b1 : 0 ≤ s1 ∧ s1 ≤ 1900) (b2 : 0 ≤ s2 ∧ s2 ≤ 1900) (b3 : 0 ≤ s3 ∧ s3 ≤ 1900) (b4 : 0 ≤ s4 ∧ s4 ≤ 9223372036854775807) (m0 : (0 ≤ (1 : Int) ∧ M 2 (1 : Int).toNat = (s2))) (m1 : HP 44 (s0) (s1) M) (m2 : HP 44 (s1 + 2048) (s3) M) (m3 : HP 143 (2048 * s1 + s3) (s4) M) (m4 : HP 142 (24 : Int) (s4) M) (f0 : 0 ≤ ((-1) * s1 + s2 - 1)) (f1 : 0 ≤ ((-1) * s1 + s3 - 1)) (f2 : 0 ≤ (s1 + (-1) * s3 + 8)) (hG : gI M) : (HP 45 (s0) (s1) M ∧ HP 46 (s0) (s3) M ∧ HP 47 (s0) (262143 : Int) M ∧ True) := by
  have hn := tn_o m0 b2
  have e0 := ru_o (P := 0) (p := s0.toNat) m1 ⟨by omega, by decide, by omega⟩
  have e1 := ru_o (P := 1) (p := s1.toNat) m2 ⟨by omega, by decide, by omega⟩
  obtain ⟨p1, p2, p3⟩ := pk_o (s := s1.toNat) (e := s3.toNat) (Eq.mp hp_143 m3) ⟨by omega, by omega, by omega⟩
  have w := qk_nwid (N := tm M) (s := s1.toNat) (e := s3.toNat) (fun k hk => by rw [← p2]; exact Eq.mp hp_142 m4 k hk (by omega))
  rw [wid_ag agtm (by omega) (by omega)] at w
  exact tk_fin (tk_word (p := s0.toNat) (s := s1.toNat) (e := s3.toNat) (by omega) (by omega) (by omega) (by omega) (by omega)) (by omega) (by omega) (by omega) (by omega)
theorem rul_230 : Rul r_230 := by
  refine ⟨fun _ ρ M hm hB hF hG => ?_, fun gi gv hg => (by cases hg)⟩
  have H := cr_230 M (ρ 0) (ρ 1) (ρ 2) (ρ 3) (ρ 4) (hB _ List.mem_cons_self) (hB _ (List.mem_cons_of_mem _ List.mem_cons_self)) (hB _ (List.mem_cons_of_mem _ (List.mem_cons_of_mem _ List.mem_cons_self))) (hB _ (List.mem_cons_of_mem _ (List.mem_cons_of_mem _ (List.mem_cons_of_mem _ List.mem_cons_self)))) (hB _ (List.mem_cons_of_mem _ (List.mem_cons_of_mem _ (List.mem_cons_of_mem _ (List.mem_cons_of_mem _ List.mem_cons_self))))) (cvm (c := 2) (by decide) (x' := (1 : Int)) (y' := ((ρ 2))) (by show 1 + 0 = _; omega) (by show 0 + (1 * ρ 2 + 0) = _; omega) (hm _ List.mem_cons_self)) (cvp 44 (x' := ((ρ 0))) (y' := ((ρ 1))) (by show 0 + (1 * ρ 0 + 0) = _; omega) (by show 0 + (1 * ρ 1 + 0) = _; omega) (hm _ (List.mem_cons_of_mem _ List.mem_cons_self))) (cvp 44 (x' := ((ρ 1) + 2048)) (y' := ((ρ 3))) (by show 2048 + (1 * ρ 1 + 0) = _; omega) (by show 0 + (1 * ρ 3 + 0) = _; omega) (hm _ (List.mem_cons_of_mem _ (List.mem_cons_of_mem _ List.mem_cons_self)))) (cvp 143 (x' := (2048 * (ρ 1) + (ρ 3))) (y' := ((ρ 4))) (by show 0 + (2048 * ρ 1 + (1 * ρ 3 + 0)) = _; omega) (by show 0 + (1 * ρ 4 + 0) = _; omega) (hm _ (List.mem_cons_of_mem _ (List.mem_cons_of_mem _ (List.mem_cons_of_mem _ List.mem_cons_self))))) (cvp 142 (x' := (24 : Int)) (y' := ((ρ 4))) (by show 24 + 0 = _; omega) (by show 0 + (1 * ρ 4 + 0) = _; omega) (hm _ (List.mem_cons_of_mem _ (List.mem_cons_of_mem _ (List.mem_cons_of_mem _ (List.mem_cons_of_mem _ List.mem_cons_self)))))) (by have h := hF _ List.mem_cons_self; have h : 0 ≤ (-1) + ((-1) * ρ 1 + (1 * ρ 2 + 0)) := h; omega) (by have h := hF _ (List.mem_cons_of_mem _ List.mem_cons_self); have h : 0 ≤ (-1) + ((-1) * ρ 1 + (1 * ρ 3 + 0)) := h; omega) (by have h := hF _ (List.mem_cons_of_mem _ (List.mem_cons_of_mem _ List.mem_cons_self)); have h : 0 ≤ 8 + (1 * ρ 1 + ((-1) * ρ 3 + 0)) := h; omega) hG
  obtain ⟨k0, k1, k2, -⟩ := H
  exact ⟨_, List.mem_cons_self, ρ, fun _ _ => rfl, (okM_c (pvp 45 (by show 0 + (1 * ρ 0 + 0) = _; omega) (by show 0 + (1 * ρ 1 + 0) = _; omega) k0) (okM_c (pvp 46 (by show 0 + (1 * ρ 0 + 0) = _; omega) (by show 0 + (1 * ρ 3 + 0) = _; omega) k1) (okM_c (pvp 47 (by show 0 + (1 * ρ 0 + 0) = _; omega) (by show 262143 + 0 = _; omega) k2) okM_n))), okB_n, okF_n⟩
-- tkO2
theorem cr_231 (M : pM) (s0 s1 s2 s3 s4 : Int) (b0 : 0 ≤ s0 ∧ s0 ≤ 1900) (b1 : 0 ≤ s1 ∧ s1 ≤ 1900) (b2 : 0 ≤ s2 ∧ s2 ≤ 1900) (b3 : 0 ≤ s3 ∧ s3 ≤ 1900) (b4 : 97 ≤ s4 ∧ s4 ≤ 122) (m0 : (0 ≤ (1 : Int) ∧ M 2 (1 : Int).toNat = (s2))) (m1 : HP 44 (s0) (s1) M) (m2 : HP 44 (s1 + 2048) (s1) M) (m3 : HP 44 (s1 + 4096) (s3) M) (m4 : (0 ≤ (s3) ∧ M 1 (s3).toNat = (s4))) (f0 : 0 ≤ ((-1) * s1 + s2 - 1)) (f1 : 0 ≤ ((-1) * s1 + s3 - 1)) (f2 : 0 ≤ (s2 + (-1) * s3 - 1)) (hG : gI M) : (HP 45 (s0) (s1) M ∧ HP 46 (s0) (s3) M ∧ HP 47 (s0) (-1 : Int) M ∧ True) := by
  have hn := tn_o m0 b2
  have e0 := ru_o (P := 0) (p := s0.toNat) m1 ⟨by omega, by decide, by omega⟩
  have e1 := ru_o (P := 1) (p := s1.toNat) m2 ⟨by omega, by decide, by omega⟩
  have e2 := ru_o (P := 2) (p := s1.toNat) m3 ⟨by omega, by decide, by omega⟩
  have e3 := ru_lt (M := M) (P := 1) (p := s3.toNat) (by omega) (by rw [m4.2]; exact decide_eq_true (by omega))
  exact tk_fin (tk_bad (p := s0.toNat) (s := s1.toNat) (e := s3.toNat) (by omega) (by omega) (by omega) (by omega) (by omega) (fun h => by omega)) (by omega) (by omega) (by omega) (by omega)
theorem rul_231 : Rul r_231 := by
  refine ⟨fun _ ρ M hm hB hF hG => ?_, fun gi gv hg => (by cases hg)⟩
  have H := cr_231 M (ρ 0) (ρ 1) (ρ 2) (ρ 3) (ρ 4) (hB _ List.mem_cons_self) (hB _ (List.mem_cons_of_mem _ List.mem_cons_self)) (hB _ (List.mem_cons_of_mem _ (List.mem_cons_of_mem _ List.mem_cons_self))) (hB _ (List.mem_cons_of_mem _ (List.mem_cons_of_mem _ (List.mem_cons_of_mem _ List.mem_cons_self)))) (hB _ (List.mem_cons_of_mem _ (List.mem_cons_of_mem _ (List.mem_cons_of_mem _ (List.mem_cons_of_mem _ List.mem_cons_self))))) (cvm (c := 2) (by decide) (x' := (1 : Int)) (y' := ((ρ 2))) (by show 1 + 0 = _; omega) (by show 0 + (1 * ρ 2 + 0) = _; omega) (hm _ List.mem_cons_self)) (cvp 44 (x' := ((ρ 0))) (y' := ((ρ 1))) (by show 0 + (1 * ρ 0 + 0) = _; omega) (by show 0 + (1 * ρ 1 + 0) = _; omega) (hm _ (List.mem_cons_of_mem _ List.mem_cons_self))) (cvp 44 (x' := ((ρ 1) + 2048)) (y' := ((ρ 1))) (by show 2048 + (1 * ρ 1 + 0) = _; omega) (by show 0 + (1 * ρ 1 + 0) = _; omega) (hm _ (List.mem_cons_of_mem _ (List.mem_cons_of_mem _ List.mem_cons_self)))) (cvp 44 (x' := ((ρ 1) + 4096)) (y' := ((ρ 3))) (by show 4096 + (1 * ρ 1 + 0) = _; omega) (by show 0 + (1 * ρ 3 + 0) = _; omega) (hm _ (List.mem_cons_of_mem _ (List.mem_cons_of_mem _ (List.mem_cons_of_mem _ List.mem_cons_self))))) (cvm (c := 1) (by decide) (x' := ((ρ 3))) (y' := ((ρ 4))) (by show 0 + (1 * ρ 3 + 0) = _; omega) (by show 0 + (1 * ρ 4 + 0) = _; omega) (hm _ (List.mem_cons_of_mem _ (List.mem_cons_of_mem _ (List.mem_cons_of_mem _ (List.mem_cons_of_mem _ List.mem_cons_self)))))) (by have h := hF _ List.mem_cons_self; have h : 0 ≤ (-1) + ((-1) * ρ 1 + (1 * ρ 2 + 0)) := h; omega) (by have h := hF _ (List.mem_cons_of_mem _ List.mem_cons_self); have h : 0 ≤ (-1) + ((-1) * ρ 1 + (1 * ρ 3 + 0)) := h; omega) (by have h := hF _ (List.mem_cons_of_mem _ (List.mem_cons_of_mem _ List.mem_cons_self)); have h : 0 ≤ (-1) + (1 * ρ 2 + ((-1) * ρ 3 + 0)) := h; omega) hG
  obtain ⟨k0, k1, k2, -⟩ := H
  exact ⟨_, List.mem_cons_self, ρ, fun _ _ => rfl, (okM_c (pvp 45 (by show 0 + (1 * ρ 0 + 0) = _; omega) (by show 0 + (1 * ρ 1 + 0) = _; omega) k0) (okM_c (pvp 46 (by show 0 + (1 * ρ 0 + 0) = _; omega) (by show 0 + (1 * ρ 3 + 0) = _; omega) k1) (okM_c (pvp 47 (by show 0 + (1 * ρ 0 + 0) = _; omega) (by show (-1) + 0 = _; omega) k2) okM_n))), okB_n, okF_n⟩
-- tkT2
theorem cr_232 (M : pM) (s0 s1 s2 s3 : Int) (b0 : 0 ≤ s0 ∧ s0 ≤ 1900) (b1 : 0 ≤ s1 ∧ s1 ≤ 1900) (b2 : 0 ≤ s2 ∧ s2 ≤ 1900) (b3 : 0 ≤ s3 ∧ s3 ≤ 255) (m0 : (0 ≤ (1 : Int) ∧ M 2 (1 : Int).toNat = (s2))) (m1 : HP 44 (s0) (s1) M) (m2 : HP 44 (s1 + 2048) (s1) M) (m3 : HP 44 (s1 + 4096) (s1) M) (m4 : (0 ≤ (s1) ∧ M 1 (s1).toNat = (s3))) (m5 : HP 144 (10 : Int) (s3) M) (f0 : 0 ≤ ((-1) * s1 + s2 - 1)) (hG : gI M) : (HP 45 (s0) (s1) M ∧ HP 46 (s0) (s1 + 1) M ∧ HP 47 (s0) (s3) M ∧ True) := by
  have hn := tn_o m0 b2
  have e0 := ru_o (P := 0) (p := s0.toNat) m1 ⟨by omega, by decide, by omega⟩
  have e1 := ru_o (P := 1) (p := s1.toNat) m2 ⟨by omega, by decide, by omega⟩
  have e2 := ru_o (P := 2) (p := s1.toNat) m3 ⟨by omega, by decide, by omega⟩
  have q := tk_sign (M := M) (p := s0.toNat) (s := s1.toNat) (by omega) (by omega) (by omega) (by omega)
  rw [m4.2] at q
  rw [if_neg (ng_no m5)] at q
  exact tk_fin q (by omega) (by omega) (by omega) (by omega)
theorem rul_232 : Rul r_232 := by
  refine ⟨fun _ ρ M hm hB hF hG => ?_, fun gi gv hg => (by cases hg)⟩
  have H := cr_232 M (ρ 0) (ρ 1) (ρ 2) (ρ 3) (hB _ List.mem_cons_self) (hB _ (List.mem_cons_of_mem _ List.mem_cons_self)) (hB _ (List.mem_cons_of_mem _ (List.mem_cons_of_mem _ List.mem_cons_self))) (hB _ (List.mem_cons_of_mem _ (List.mem_cons_of_mem _ (List.mem_cons_of_mem _ List.mem_cons_self)))) (cvm (c := 2) (by decide) (x' := (1 : Int)) (y' := ((ρ 2))) (by show 1 + 0 = _; omega) (by show 0 + (1 * ρ 2 + 0) = _; omega) (hm _ List.mem_cons_self)) (cvp 44 (x' := ((ρ 0))) (y' := ((ρ 1))) (by show 0 + (1 * ρ 0 + 0) = _; omega) (by show 0 + (1 * ρ 1 + 0) = _; omega) (hm _ (List.mem_cons_of_mem _ List.mem_cons_self))) (cvp 44 (x' := ((ρ 1) + 2048)) (y' := ((ρ 1))) (by show 2048 + (1 * ρ 1 + 0) = _; omega) (by show 0 + (1 * ρ 1 + 0) = _; omega) (hm _ (List.mem_cons_of_mem _ (List.mem_cons_of_mem _ List.mem_cons_self)))) (cvp 44 (x' := ((ρ 1) + 4096)) (y' := ((ρ 1))) (by show 4096 + (1 * ρ 1 + 0) = _; omega) (by show 0 + (1 * ρ 1 + 0) = _; omega) (hm _ (List.mem_cons_of_mem _ (List.mem_cons_of_mem _ (List.mem_cons_of_mem _ List.mem_cons_self))))) (cvm (c := 1) (by decide) (x' := ((ρ 1))) (y' := ((ρ 3))) (by show 0 + (1 * ρ 1 + 0) = _; omega) (by show 0 + (1 * ρ 3 + 0) = _; omega) (hm _ (List.mem_cons_of_mem _ (List.mem_cons_of_mem _ (List.mem_cons_of_mem _ (List.mem_cons_of_mem _ List.mem_cons_self)))))) (cvp 144 (x' := (10 : Int)) (y' := ((ρ 3))) (by show 10 + 0 = _; omega) (by show 0 + (1 * ρ 3 + 0) = _; omega) (hm _ (List.mem_cons_of_mem _ (List.mem_cons_of_mem _ (List.mem_cons_of_mem _ (List.mem_cons_of_mem _ (List.mem_cons_of_mem _ List.mem_cons_self))))))) (by have h := hF _ List.mem_cons_self; have h : 0 ≤ (-1) + ((-1) * ρ 1 + (1 * ρ 2 + 0)) := h; omega) hG
  obtain ⟨k0, k1, k2, -⟩ := H
  exact ⟨_, List.mem_cons_self, ρ, fun _ _ => rfl, (okM_c (pvp 45 (by show 0 + (1 * ρ 0 + 0) = _; omega) (by show 0 + (1 * ρ 1 + 0) = _; omega) k0) (okM_c (pvp 46 (by show 0 + (1 * ρ 0 + 0) = _; omega) (by show 1 + (1 * ρ 1 + 0) = _; omega) k1) (okM_c (pvp 47 (by show 0 + (1 * ρ 0 + 0) = _; omega) (by show 0 + (1 * ρ 3 + 0) = _; omega) k2) okM_n))), okB_n, okF_n⟩
-- rti0
theorem cr_233 (M : pM) (s0 s1 s2 : Int) (b0 : 0 ≤ s0 ∧ s0 ≤ 1900) (b1 : 0 ≤ s1 ∧ s1 ≤ 1900) (b2 : 0 ≤ s2 ∧ s2 ≤ 1900) (m0 : (0 ≤ (6 : Int) ∧ M 61 (6 : Int).toNat = (s1))) (m1 : (0 ≤ (7 : Int) ∧ M 61 (7 : Int).toNat = (s2))) (m2 : HP 45 (s0) (s1) M) (m3 : HP 46 (s0) (s2) M) (m4 : (0 ≤ (8 : Int) ∧ M 61 (8 : Int).toNat = (0 : Int))) (m5 : HP 47 (s0) (131071 : Int) M) (hG : gI M) : (HP 49 (s0) (0 : Int) M ∧ True) := by
  have h1 := (Eq.mp hp_45 m2)
  have h2 := (Eq.mp hp_46 m3).2
  have h3 := (Eq.mp hp_47 m5).2
  have h6 : M 61 6 = s1 := m0.2
  have h7 : M 61 7 = s2 := m1.2
  have h8 : M 61 8 = 0 := m4.2
  exact ⟨Eq.mpr hp_49 ⟨h1.1, by rw [h6]; exact h1.2, by rw [h7]; exact h2, Or.inl ⟨h8, by omega⟩⟩, trivial⟩
theorem rul_233 : Rul r_233 := by
  refine ⟨fun _ ρ M hm hB hF hG => ?_, fun gi gv hg => (by cases hg)⟩
  have H := cr_233 M (ρ 0) (ρ 1) (ρ 2) (hB _ List.mem_cons_self) (hB _ (List.mem_cons_of_mem _ List.mem_cons_self)) (hB _ (List.mem_cons_of_mem _ (List.mem_cons_of_mem _ List.mem_cons_self))) (cvm (c := 61) (by decide) (x' := (6 : Int)) (y' := ((ρ 1))) (by show 6 + 0 = _; omega) (by show 0 + (1 * ρ 1 + 0) = _; omega) (hm _ List.mem_cons_self)) (cvm (c := 61) (by decide) (x' := (7 : Int)) (y' := ((ρ 2))) (by show 7 + 0 = _; omega) (by show 0 + (1 * ρ 2 + 0) = _; omega) (hm _ (List.mem_cons_of_mem _ List.mem_cons_self))) (cvp 45 (x' := ((ρ 0))) (y' := ((ρ 1))) (by show 0 + (1 * ρ 0 + 0) = _; omega) (by show 0 + (1 * ρ 1 + 0) = _; omega) (hm _ (List.mem_cons_of_mem _ (List.mem_cons_of_mem _ List.mem_cons_self)))) (cvp 46 (x' := ((ρ 0))) (y' := ((ρ 2))) (by show 0 + (1 * ρ 0 + 0) = _; omega) (by show 0 + (1 * ρ 2 + 0) = _; omega) (hm _ (List.mem_cons_of_mem _ (List.mem_cons_of_mem _ (List.mem_cons_of_mem _ List.mem_cons_self))))) (cvm (c := 61) (by decide) (x' := (8 : Int)) (y' := (0 : Int)) (by show 8 + 0 = _; omega) (by show 0 + 0 = _; omega) (hm _ (List.mem_cons_of_mem _ (List.mem_cons_of_mem _ (List.mem_cons_of_mem _ (List.mem_cons_of_mem _ List.mem_cons_self)))))) (cvp 47 (x' := ((ρ 0))) (y' := (131071 : Int)) (by show 0 + (1 * ρ 0 + 0) = _; omega) (by show 131071 + 0 = _; omega) (hm _ (List.mem_cons_of_mem _ (List.mem_cons_of_mem _ (List.mem_cons_of_mem _ (List.mem_cons_of_mem _ (List.mem_cons_of_mem _ List.mem_cons_self))))))) hG
  obtain ⟨k0, -⟩ := H
  exact ⟨_, List.mem_cons_self, ρ, fun _ _ => rfl, (okM_c (pvp 49 (by show 0 + (1 * ρ 0 + 0) = _; omega) (by show 0 + 0 = _; omega) k0) okM_n), okB_n, okF_n⟩
-- rti1
theorem cr_234 (M : pM) (s0 s1 s2 s3 : Int) (b0 : 0 ≤ s0 ∧ s0 ≤ 1900) (b1 : 0 ≤ s1 ∧ s1 ≤ 1900) (b2 : 0 ≤ s2 ∧ s2 ≤ 1900) (b3 : (-1) ≤ s3 ∧ s3 ≤ 255) (m0 : (0 ≤ (6 : Int) ∧ M 61 (6 : Int).toNat = (s1))) (m1 : (0 ≤ (7 : Int) ∧ M 61 (7 : Int).toNat = (s2))) (m2 : HP 45 (s0) (s1) M) (m3 : HP 46 (s0) (s2) M) (m4 : (0 ≤ (8 : Int) ∧ M 61 (8 : Int).toNat = (1 : Int))) (m5 : HP 47 (s0) (s3) M) (hG : gI M) : (HP 49 (s0) (0 : Int) M ∧ True) := by
  have h1 := (Eq.mp hp_45 m2)
  have h2 := (Eq.mp hp_46 m3).2
  have h3 := (Eq.mp hp_47 m5).2
  have h6 : M 61 6 = s1 := m0.2
  have h7 : M 61 7 = s2 := m1.2
  have h8 : M 61 8 = 1 := m4.2
  exact ⟨Eq.mpr hp_49 ⟨h1.1, by rw [h6]; exact h1.2, by rw [h7]; exact h2, Or.inr (Or.inl ⟨h8, by omega, by omega⟩)⟩, trivial⟩
theorem rul_234 : Rul r_234 := by
  refine ⟨fun _ ρ M hm hB hF hG => ?_, fun gi gv hg => (by cases hg)⟩
  have H := cr_234 M (ρ 0) (ρ 1) (ρ 2) (ρ 3) (hB _ List.mem_cons_self) (hB _ (List.mem_cons_of_mem _ List.mem_cons_self)) (hB _ (List.mem_cons_of_mem _ (List.mem_cons_of_mem _ List.mem_cons_self))) (hB _ (List.mem_cons_of_mem _ (List.mem_cons_of_mem _ (List.mem_cons_of_mem _ List.mem_cons_self)))) (cvm (c := 61) (by decide) (x' := (6 : Int)) (y' := ((ρ 1))) (by show 6 + 0 = _; omega) (by show 0 + (1 * ρ 1 + 0) = _; omega) (hm _ List.mem_cons_self)) (cvm (c := 61) (by decide) (x' := (7 : Int)) (y' := ((ρ 2))) (by show 7 + 0 = _; omega) (by show 0 + (1 * ρ 2 + 0) = _; omega) (hm _ (List.mem_cons_of_mem _ List.mem_cons_self))) (cvp 45 (x' := ((ρ 0))) (y' := ((ρ 1))) (by show 0 + (1 * ρ 0 + 0) = _; omega) (by show 0 + (1 * ρ 1 + 0) = _; omega) (hm _ (List.mem_cons_of_mem _ (List.mem_cons_of_mem _ List.mem_cons_self)))) (cvp 46 (x' := ((ρ 0))) (y' := ((ρ 2))) (by show 0 + (1 * ρ 0 + 0) = _; omega) (by show 0 + (1 * ρ 2 + 0) = _; omega) (hm _ (List.mem_cons_of_mem _ (List.mem_cons_of_mem _ (List.mem_cons_of_mem _ List.mem_cons_self))))) (cvm (c := 61) (by decide) (x' := (8 : Int)) (y' := (1 : Int)) (by show 8 + 0 = _; omega) (by show 1 + 0 = _; omega) (hm _ (List.mem_cons_of_mem _ (List.mem_cons_of_mem _ (List.mem_cons_of_mem _ (List.mem_cons_of_mem _ List.mem_cons_self)))))) (cvp 47 (x' := ((ρ 0))) (y' := ((ρ 3))) (by show 0 + (1 * ρ 0 + 0) = _; omega) (by show 0 + (1 * ρ 3 + 0) = _; omega) (hm _ (List.mem_cons_of_mem _ (List.mem_cons_of_mem _ (List.mem_cons_of_mem _ (List.mem_cons_of_mem _ (List.mem_cons_of_mem _ List.mem_cons_self))))))) hG
  obtain ⟨k0, -⟩ := H
  exact ⟨_, List.mem_cons_self, ρ, fun _ _ => rfl, (okM_c (pvp 49 (by show 0 + (1 * ρ 0 + 0) = _; omega) (by show 0 + 0 = _; omega) k0) okM_n), okB_n, okF_n⟩
-- rti2
theorem cr_235 (M : pM) (s0 s1 s2 s3 : Int) (b0 : 0 ≤ s0 ∧ s0 ≤ 1900) (b1 : 0 ≤ s1 ∧ s1 ≤ 1900) (b2 : 0 ≤ s2 ∧ s2 ≤ 1900) (b3 : 0 ≤ s3 ∧ s3 ≤ 9223372036854775807) (m0 : (0 ≤ (6 : Int) ∧ M 61 (6 : Int).toNat = (s1))) (m1 : (0 ≤ (7 : Int) ∧ M 61 (7 : Int).toNat = (s2))) (m2 : HP 45 (s0) (s1) M) (m3 : HP 46 (s0) (s2) M) (m4 : (0 ≤ (8 : Int) ∧ M 61 (8 : Int).toNat = (2 : Int))) (m5 : HP 47 (s0) (262143 : Int) M) (m6 : (0 ≤ (10 : Int) ∧ M 61 (10 : Int).toNat = (s3))) (m7 : HP 143 (2048 * s1 + s2) (s3) M) (hG : gI M) : (HP 49 (s0) (0 : Int) M ∧ True) := by
  have h1 := (Eq.mp hp_45 m2)
  have h2 := (Eq.mp hp_46 m3).2
  have h3 := (Eq.mp hp_47 m5).2
  have h6 : M 61 6 = s1 := m0.2
  have h7 : M 61 7 = s2 := m1.2
  have h8 : M 61 8 = 2 := m4.2
  exact ⟨Eq.mpr hp_49 ⟨h1.1, by rw [h6]; exact h1.2, by rw [h7]; exact h2, Or.inr (Or.inr (Or.inl ⟨h8, by omega, by have h9 : M 61 10 = s3 := m6.2; rw [h9, ← h1.2, ← h2]; exact Eq.mp hp_143 m7⟩))⟩, trivial⟩
theorem rul_235 : Rul r_235 := by
  refine ⟨fun _ ρ M hm hB hF hG => ?_, fun gi gv hg => (by cases hg)⟩
  have H := cr_235 M (ρ 0) (ρ 1) (ρ 2) (ρ 3) (hB _ List.mem_cons_self) (hB _ (List.mem_cons_of_mem _ List.mem_cons_self)) (hB _ (List.mem_cons_of_mem _ (List.mem_cons_of_mem _ List.mem_cons_self))) (hB _ (List.mem_cons_of_mem _ (List.mem_cons_of_mem _ (List.mem_cons_of_mem _ List.mem_cons_self)))) (cvm (c := 61) (by decide) (x' := (6 : Int)) (y' := ((ρ 1))) (by show 6 + 0 = _; omega) (by show 0 + (1 * ρ 1 + 0) = _; omega) (hm _ List.mem_cons_self)) (cvm (c := 61) (by decide) (x' := (7 : Int)) (y' := ((ρ 2))) (by show 7 + 0 = _; omega) (by show 0 + (1 * ρ 2 + 0) = _; omega) (hm _ (List.mem_cons_of_mem _ List.mem_cons_self))) (cvp 45 (x' := ((ρ 0))) (y' := ((ρ 1))) (by show 0 + (1 * ρ 0 + 0) = _; omega) (by show 0 + (1 * ρ 1 + 0) = _; omega) (hm _ (List.mem_cons_of_mem _ (List.mem_cons_of_mem _ List.mem_cons_self)))) (cvp 46 (x' := ((ρ 0))) (y' := ((ρ 2))) (by show 0 + (1 * ρ 0 + 0) = _; omega) (by show 0 + (1 * ρ 2 + 0) = _; omega) (hm _ (List.mem_cons_of_mem _ (List.mem_cons_of_mem _ (List.mem_cons_of_mem _ List.mem_cons_self))))) (cvm (c := 61) (by decide) (x' := (8 : Int)) (y' := (2 : Int)) (by show 8 + 0 = _; omega) (by show 2 + 0 = _; omega) (hm _ (List.mem_cons_of_mem _ (List.mem_cons_of_mem _ (List.mem_cons_of_mem _ (List.mem_cons_of_mem _ List.mem_cons_self)))))) (cvp 47 (x' := ((ρ 0))) (y' := (262143 : Int)) (by show 0 + (1 * ρ 0 + 0) = _; omega) (by show 262143 + 0 = _; omega) (hm _ (List.mem_cons_of_mem _ (List.mem_cons_of_mem _ (List.mem_cons_of_mem _ (List.mem_cons_of_mem _ (List.mem_cons_of_mem _ List.mem_cons_self))))))) (cvm (c := 61) (by decide) (x' := (10 : Int)) (y' := ((ρ 3))) (by show 10 + 0 = _; omega) (by show 0 + (1 * ρ 3 + 0) = _; omega) (hm _ (List.mem_cons_of_mem _ (List.mem_cons_of_mem _ (List.mem_cons_of_mem _ (List.mem_cons_of_mem _ (List.mem_cons_of_mem _ (List.mem_cons_of_mem _ List.mem_cons_self)))))))) (cvp 143 (x' := (2048 * (ρ 1) + (ρ 2))) (y' := ((ρ 3))) (by show 0 + (2048 * ρ 1 + (1 * ρ 2 + 0)) = _; omega) (by show 0 + (1 * ρ 3 + 0) = _; omega) (hm _ (List.mem_cons_of_mem _ (List.mem_cons_of_mem _ (List.mem_cons_of_mem _ (List.mem_cons_of_mem _ (List.mem_cons_of_mem _ (List.mem_cons_of_mem _ (List.mem_cons_of_mem _ List.mem_cons_self))))))))) hG
  obtain ⟨k0, -⟩ := H
  exact ⟨_, List.mem_cons_self, ρ, fun _ _ => rfl, (okM_c (pvp 49 (by show 0 + (1 * ρ 0 + 0) = _; omega) (by show 0 + 0 = _; omega) k0) okM_n), okB_n, okF_n⟩
-- rti3
theorem cr_236 (M : pM) (s0 s1 s2 s3 s4 : Int) (b0 : 0 ≤ s0 ∧ s0 ≤ 1900) (b1 : 0 ≤ s1 ∧ s1 ≤ 1900) (b2 : 0 ≤ s2 ∧ s2 ≤ 1900) (b3 : 0 ≤ s3 ∧ s3 ≤ 9223372036854775807) (b4 : 0 ≤ s4 ∧ s4 ≤ 23) (m0 : (0 ≤ (6 : Int) ∧ M 61 (6 : Int).toNat = (s1))) (m1 : (0 ≤ (7 : Int) ∧ M 61 (7 : Int).toNat = (s2))) (m2 : HP 45 (s0) (s1) M) (m3 : HP 46 (s0) (s2) M) (m4 : (0 ≤ (8 : Int) ∧ M 61 (8 : Int).toNat = (3 : Int))) (m5 : HP 47 (s0) (s4 + 262144) M) (m6 : (0 ≤ (10 : Int) ∧ M 61 (10 : Int).toNat = (s3))) (m7 : HP 140 (s4) (s3) M) (hG : gI M) : (HP 49 (s0) (0 : Int) M ∧ True) := by
  have h1 := (Eq.mp hp_45 m2)
  have h2 := (Eq.mp hp_46 m3).2
  have h3 := (Eq.mp hp_47 m5).2
  have h6 : M 61 6 = s1 := m0.2
  have h7 : M 61 7 = s2 := m1.2
  have h8 : M 61 8 = 3 := m4.2
  exact ⟨Eq.mpr hp_49 ⟨h1.1, by rw [h6]; exact h1.2, by rw [h7]; exact h2, Or.inr (Or.inr (Or.inr (Or.inl ⟨h8, by obtain ⟨k, w1, w2, w3⟩ := Eq.mp hp_140 m7; have h9 : M 61 10 = s3 := m6.2; exact ⟨k, w1, by omega, by omega⟩⟩)))⟩, trivial⟩
theorem rul_236 : Rul r_236 := by
  refine ⟨fun _ ρ M hm hB hF hG => ?_, fun gi gv hg => (by cases hg)⟩
  have H := cr_236 M (ρ 0) (ρ 1) (ρ 2) (ρ 3) (ρ 4) (hB _ List.mem_cons_self) (hB _ (List.mem_cons_of_mem _ List.mem_cons_self)) (hB _ (List.mem_cons_of_mem _ (List.mem_cons_of_mem _ List.mem_cons_self))) (hB _ (List.mem_cons_of_mem _ (List.mem_cons_of_mem _ (List.mem_cons_of_mem _ List.mem_cons_self)))) (hB _ (List.mem_cons_of_mem _ (List.mem_cons_of_mem _ (List.mem_cons_of_mem _ (List.mem_cons_of_mem _ List.mem_cons_self))))) (cvm (c := 61) (by decide) (x' := (6 : Int)) (y' := ((ρ 1))) (by show 6 + 0 = _; omega) (by show 0 + (1 * ρ 1 + 0) = _; omega) (hm _ List.mem_cons_self)) (cvm (c := 61) (by decide) (x' := (7 : Int)) (y' := ((ρ 2))) (by show 7 + 0 = _; omega) (by show 0 + (1 * ρ 2 + 0) = _; omega) (hm _ (List.mem_cons_of_mem _ List.mem_cons_self))) (cvp 45 (x' := ((ρ 0))) (y' := ((ρ 1))) (by show 0 + (1 * ρ 0 + 0) = _; omega) (by show 0 + (1 * ρ 1 + 0) = _; omega) (hm _ (List.mem_cons_of_mem _ (List.mem_cons_of_mem _ List.mem_cons_self)))) (cvp 46 (x' := ((ρ 0))) (y' := ((ρ 2))) (by show 0 + (1 * ρ 0 + 0) = _; omega) (by show 0 + (1 * ρ 2 + 0) = _; omega) (hm _ (List.mem_cons_of_mem _ (List.mem_cons_of_mem _ (List.mem_cons_of_mem _ List.mem_cons_self))))) (cvm (c := 61) (by decide) (x' := (8 : Int)) (y' := (3 : Int)) (by show 8 + 0 = _; omega) (by show 3 + 0 = _; omega) (hm _ (List.mem_cons_of_mem _ (List.mem_cons_of_mem _ (List.mem_cons_of_mem _ (List.mem_cons_of_mem _ List.mem_cons_self)))))) (cvp 47 (x' := ((ρ 0))) (y' := ((ρ 4) + 262144)) (by show 0 + (1 * ρ 0 + 0) = _; omega) (by show 262144 + (1 * ρ 4 + 0) = _; omega) (hm _ (List.mem_cons_of_mem _ (List.mem_cons_of_mem _ (List.mem_cons_of_mem _ (List.mem_cons_of_mem _ (List.mem_cons_of_mem _ List.mem_cons_self))))))) (cvm (c := 61) (by decide) (x' := (10 : Int)) (y' := ((ρ 3))) (by show 10 + 0 = _; omega) (by show 0 + (1 * ρ 3 + 0) = _; omega) (hm _ (List.mem_cons_of_mem _ (List.mem_cons_of_mem _ (List.mem_cons_of_mem _ (List.mem_cons_of_mem _ (List.mem_cons_of_mem _ (List.mem_cons_of_mem _ List.mem_cons_self)))))))) (cvp 140 (x' := ((ρ 4))) (y' := ((ρ 3))) (by show 0 + (1 * ρ 4 + 0) = _; omega) (by show 0 + (1 * ρ 3 + 0) = _; omega) (hm _ (List.mem_cons_of_mem _ (List.mem_cons_of_mem _ (List.mem_cons_of_mem _ (List.mem_cons_of_mem _ (List.mem_cons_of_mem _ (List.mem_cons_of_mem _ (List.mem_cons_of_mem _ List.mem_cons_self))))))))) hG
  obtain ⟨k0, -⟩ := H
  exact ⟨_, List.mem_cons_self, ρ, fun _ _ => rfl, (okM_c (pvp 49 (by show 0 + (1 * ρ 0 + 0) = _; omega) (by show 0 + 0 = _; omega) k0) okM_n), okB_n, okF_n⟩
-- rti4
theorem cr_237 (M : pM) (s0 s1 s2 s3 : Int) (b0 : 0 ≤ s0 ∧ s0 ≤ 1900) (b1 : 0 ≤ s1 ∧ s1 ≤ 1900) (b2 : 0 ≤ s2 ∧ s2 ≤ 1900) (b3 : 0 ≤ s3 ∧ s3 ≤ 9999) (m0 : (0 ≤ (6 : Int) ∧ M 61 (6 : Int).toNat = (s1))) (m1 : (0 ≤ (7 : Int) ∧ M 61 (7 : Int).toNat = (s2))) (m2 : HP 45 (s0) (s1) M) (m3 : HP 46 (s0) (s2) M) (m4 : (0 ≤ (8 : Int) ∧ M 61 (8 : Int).toNat = (4 : Int))) (m5 : HP 47 (s0) (s3 + 393216) M) (m6 : (0 ≤ (9 : Int) ∧ M 61 (9 : Int).toNat = (s3))) (hG : gI M) : (HP 49 (s0) (0 : Int) M ∧ True) := by
  have h1 := (Eq.mp hp_45 m2)
  have h2 := (Eq.mp hp_46 m3).2
  have h3 := (Eq.mp hp_47 m5).2
  have h6 : M 61 6 = s1 := m0.2
  have h7 : M 61 7 = s2 := m1.2
  have h8 : M 61 8 = 4 := m4.2
  exact ⟨Eq.mpr hp_49 ⟨h1.1, by rw [h6]; exact h1.2, by rw [h7]; exact h2, Or.inr (Or.inr (Or.inr (Or.inr (Or.inl ⟨h8, by have h9 : M 61 9 = s3 := m6.2; omega⟩))))⟩, trivial⟩
theorem rul_237 : Rul r_237 := by
  refine ⟨fun _ ρ M hm hB hF hG => ?_, fun gi gv hg => (by cases hg)⟩
  have H := cr_237 M (ρ 0) (ρ 1) (ρ 2) (ρ 3) (hB _ List.mem_cons_self) (hB _ (List.mem_cons_of_mem _ List.mem_cons_self)) (hB _ (List.mem_cons_of_mem _ (List.mem_cons_of_mem _ List.mem_cons_self))) (hB _ (List.mem_cons_of_mem _ (List.mem_cons_of_mem _ (List.mem_cons_of_mem _ List.mem_cons_self)))) (cvm (c := 61) (by decide) (x' := (6 : Int)) (y' := ((ρ 1))) (by show 6 + 0 = _; omega) (by show 0 + (1 * ρ 1 + 0) = _; omega) (hm _ List.mem_cons_self)) (cvm (c := 61) (by decide) (x' := (7 : Int)) (y' := ((ρ 2))) (by show 7 + 0 = _; omega) (by show 0 + (1 * ρ 2 + 0) = _; omega) (hm _ (List.mem_cons_of_mem _ List.mem_cons_self))) (cvp 45 (x' := ((ρ 0))) (y' := ((ρ 1))) (by show 0 + (1 * ρ 0 + 0) = _; omega) (by show 0 + (1 * ρ 1 + 0) = _; omega) (hm _ (List.mem_cons_of_mem _ (List.mem_cons_of_mem _ List.mem_cons_self)))) (cvp 46 (x' := ((ρ 0))) (y' := ((ρ 2))) (by show 0 + (1 * ρ 0 + 0) = _; omega) (by show 0 + (1 * ρ 2 + 0) = _; omega) (hm _ (List.mem_cons_of_mem _ (List.mem_cons_of_mem _ (List.mem_cons_of_mem _ List.mem_cons_self))))) (cvm (c := 61) (by decide) (x' := (8 : Int)) (y' := (4 : Int)) (by show 8 + 0 = _; omega) (by show 4 + 0 = _; omega) (hm _ (List.mem_cons_of_mem _ (List.mem_cons_of_mem _ (List.mem_cons_of_mem _ (List.mem_cons_of_mem _ List.mem_cons_self)))))) (cvp 47 (x' := ((ρ 0))) (y' := ((ρ 3) + 393216)) (by show 0 + (1 * ρ 0 + 0) = _; omega) (by show 393216 + (1 * ρ 3 + 0) = _; omega) (hm _ (List.mem_cons_of_mem _ (List.mem_cons_of_mem _ (List.mem_cons_of_mem _ (List.mem_cons_of_mem _ (List.mem_cons_of_mem _ List.mem_cons_self))))))) (cvm (c := 61) (by decide) (x' := (9 : Int)) (y' := ((ρ 3))) (by show 9 + 0 = _; omega) (by show 0 + (1 * ρ 3 + 0) = _; omega) (hm _ (List.mem_cons_of_mem _ (List.mem_cons_of_mem _ (List.mem_cons_of_mem _ (List.mem_cons_of_mem _ (List.mem_cons_of_mem _ (List.mem_cons_of_mem _ List.mem_cons_self)))))))) hG
  obtain ⟨k0, -⟩ := H
  exact ⟨_, List.mem_cons_self, ρ, fun _ _ => rfl, (okM_c (pvp 49 (by show 0 + (1 * ρ 0 + 0) = _; omega) (by show 0 + 0 = _; omega) k0) okM_n), okB_n, okF_n⟩
-- rti5
theorem cr_238 (M : pM) (s0 s1 s2 s3 : Int) (b0 : 0 ≤ s0 ∧ s0 ≤ 1900) (b1 : 0 ≤ s1 ∧ s1 ≤ 1900) (b2 : 0 ≤ s2 ∧ s2 ≤ 1900) (b3 : 0 ≤ s3 ∧ s3 ≤ 255) (m0 : (0 ≤ (6 : Int) ∧ M 61 (6 : Int).toNat = (s1))) (m1 : (0 ≤ (7 : Int) ∧ M 61 (7 : Int).toNat = (s2))) (m2 : HP 45 (s0) (s1) M) (m3 : HP 46 (s0) (s2) M) (m4 : (0 ≤ (8 : Int) ∧ M 61 (8 : Int).toNat = (5 : Int))) (m5 : HP 47 (s0) (s3 + 524288) M) (hG : gI M) : (HP 49 (s0) (0 : Int) M ∧ True) := by
  have h1 := (Eq.mp hp_45 m2)
  have h2 := (Eq.mp hp_46 m3).2
  have h3 := (Eq.mp hp_47 m5).2
  have h6 : M 61 6 = s1 := m0.2
  have h7 : M 61 7 = s2 := m1.2
  have h8 : M 61 8 = 5 := m4.2
  exact ⟨Eq.mpr hp_49 ⟨h1.1, by rw [h6]; exact h1.2, by rw [h7]; exact h2, Or.inr (Or.inr (Or.inr (Or.inr (Or.inr ⟨h8, by omega, by omega⟩))))⟩, trivial⟩
theorem rul_238 : Rul r_238 := by
  refine ⟨fun _ ρ M hm hB hF hG => ?_, fun gi gv hg => (by cases hg)⟩
  have H := cr_238 M (ρ 0) (ρ 1) (ρ 2) (ρ 3) (hB _ List.mem_cons_self) (hB _ (List.mem_cons_of_mem _ List.mem_cons_self)) (hB _ (List.mem_cons_of_mem _ (List.mem_cons_of_mem _ List.mem_cons_self))) (hB _ (List.mem_cons_of_mem _ (List.mem_cons_of_mem _ (List.mem_cons_of_mem _ List.mem_cons_self)))) (cvm (c := 61) (by decide) (x' := (6 : Int)) (y' := ((ρ 1))) (by show 6 + 0 = _; omega) (by show 0 + (1 * ρ 1 + 0) = _; omega) (hm _ List.mem_cons_self)) (cvm (c := 61) (by decide) (x' := (7 : Int)) (y' := ((ρ 2))) (by show 7 + 0 = _; omega) (by show 0 + (1 * ρ 2 + 0) = _; omega) (hm _ (List.mem_cons_of_mem _ List.mem_cons_self))) (cvp 45 (x' := ((ρ 0))) (y' := ((ρ 1))) (by show 0 + (1 * ρ 0 + 0) = _; omega) (by show 0 + (1 * ρ 1 + 0) = _; omega) (hm _ (List.mem_cons_of_mem _ (List.mem_cons_of_mem _ List.mem_cons_self)))) (cvp 46 (x' := ((ρ 0))) (y' := ((ρ 2))) (by show 0 + (1 * ρ 0 + 0) = _; omega) (by show 0 + (1 * ρ 2 + 0) = _; omega) (hm _ (List.mem_cons_of_mem _ (List.mem_cons_of_mem _ (List.mem_cons_of_mem _ List.mem_cons_self))))) (cvm (c := 61) (by decide) (x' := (8 : Int)) (y' := (5 : Int)) (by show 8 + 0 = _; omega) (by show 5 + 0 = _; omega) (hm _ (List.mem_cons_of_mem _ (List.mem_cons_of_mem _ (List.mem_cons_of_mem _ (List.mem_cons_of_mem _ List.mem_cons_self)))))) (cvp 47 (x' := ((ρ 0))) (y' := ((ρ 3) + 524288)) (by show 0 + (1 * ρ 0 + 0) = _; omega) (by show 524288 + (1 * ρ 3 + 0) = _; omega) (hm _ (List.mem_cons_of_mem _ (List.mem_cons_of_mem _ (List.mem_cons_of_mem _ (List.mem_cons_of_mem _ (List.mem_cons_of_mem _ List.mem_cons_self))))))) hG
  obtain ⟨k0, -⟩ := H
  exact ⟨_, List.mem_cons_self, ρ, fun _ _ => rfl, (okM_c (pvp 49 (by show 0 + (1 * ρ 0 + 0) = _; omega) (by show 0 + 0 = _; omega) k0) okM_n), okB_n, okF_n⟩
-- rto
theorem cr_239 (M : pM) (s0 s1 s2 s3 s4 : Int) (b0 : 0 ≤ s0 ∧ s0 ≤ 1900) (b1 : 0 ≤ s1 ∧ s1 ≤ 1900) (b2 : 0 ≤ s2 ∧ s2 ≤ 1900) (b3 : 0 ≤ s3 ∧ s3 ≤ 5) (b4 : 0 ≤ s4 ∧ s4 ≤ 9999) (m0 : HP 49 (s0) (0 : Int) M) (m1 : (0 ≤ (6 : Int) ∧ M 61 (6 : Int).toNat = (s1))) (m2 : (0 ≤ (7 : Int) ∧ M 61 (7 : Int).toNat = (s2))) (m3 : (0 ≤ (8 : Int) ∧ M 61 (8 : Int).toNat = (s3))) (m4 : (0 ≤ (9 : Int) ∧ M 61 (9 : Int).toNat = (s4))) (hG : gI M) : (HP 45 (s0) (s1) M ∧ HP 46 (s0) (s2) M ∧ HP 47 (s0) (131071 : Int) M ∧ 0 ≤ ((-1) * s3) ∧ 0 ≤ (s3) ∧ True) ∨ (∃ t0 : Int, (-1) ≤ t0 ∧ t0 ≤ 255 ∧ HP 45 (s0) (s1) M ∧ HP 46 (s0) (s2) M ∧ HP 47 (s0) (t0) M ∧ 0 ≤ ((-1) * s3 + 1) ∧ 0 ≤ (s3 - 1) ∧ True) ∨ (∃ t0 : Int, 0 ≤ t0 ∧ t0 ≤ 9223372036854775807 ∧ HP 45 (s0) (s1) M ∧ HP 46 (s0) (s2) M ∧ HP 47 (s0) (262143 : Int) M ∧ (0 ≤ (10 : Int) ∧ M 61 (10 : Int).toNat = (t0)) ∧ HP 143 (2048 * s1 + s2) (t0) M ∧ 0 ≤ ((-1) * s3 + 2) ∧ 0 ≤ (s3 - 2) ∧ 0 ≤ ((-1) * s1 + s2 - 1) ∧ 0 ≤ (s1 + (-1) * s2 + 8) ∧ True) ∨ (∃ t0 t1 : Int, 0 ≤ t0 ∧ t0 ≤ 9223372036854775807 ∧ 0 ≤ t1 ∧ t1 ≤ 23 ∧ HP 45 (s0) (s1) M ∧ HP 46 (s0) (s2) M ∧ HP 47 (s0) (t1 + 262144) M ∧ (0 ≤ (10 : Int) ∧ M 61 (10 : Int).toNat = (t0)) ∧ HP 140 (t1) (t0) M ∧ 0 ≤ ((-1) * s3 + 3) ∧ 0 ≤ (s3 - 3) ∧ 0 ≤ ((-1) * s1 + s2 - 2) ∧ 0 ≤ (s1 + (-1) * s2 + 8) ∧ True) ∨ (HP 45 (s0) (s1) M ∧ HP 46 (s0) (s2) M ∧ HP 47 (s0) (s4 + 393216) M ∧ 0 ≤ ((-1) * s3 + 4) ∧ 0 ≤ (s3 - 4) ∧ 0 ≤ ((-1) * s1 + s2 - 1) ∧ True) ∨ (∃ t0 : Int, 33 ≤ t0 ∧ t0 ≤ 126 ∧ HP 45 (s0) (s1) M ∧ HP 46 (s0) (s2) M ∧ HP 47 (s0) (t0 + 524288) M ∧ (0 ≤ (s1) ∧ M 1 (s1).toNat = (t0)) ∧ 0 ≤ ((-1) * s3 + 5) ∧ 0 ≤ (s3 - 5) ∧ 0 ≤ (s1 + (-1) * s2 + 1) ∧ 0 ≤ ((-1) * s1 + s2 - 1) ∧ True) := by
  obtain ⟨h0, h1, h2, h3⟩ := Eq.mp hp_49 m0
  have e6 : M 61 6 = s1 := m1.2
  have e7 : M 61 7 = s2 := m2.2
  have e8 : M 61 8 = s3 := m3.2
  have e9 : M 61 9 = s4 := m4.2
  rw [e6] at h1
  rw [e7] at h2
  rw [e8, e9] at h3
  have hb := hby_M hG
  have k1 : HP 45 s0 s1 M := Eq.mpr hp_45 ⟨h0, h1⟩
  have k2 : HP 46 s0 s2 M := Eq.mpr hp_46 ⟨h0, h2⟩
  have k3 : ∀ z, z = tK M s0.toNat → HP 47 s0 z M := fun z hz => Eq.mpr hp_47 ⟨h0, hz⟩
  rcases h3 with ⟨t, h⟩ | ⟨t, h, h'⟩ | ⟨t, h, h'⟩ | ⟨t, k, hk, h, h'⟩ | ⟨t, h⟩ | ⟨t, h, h'⟩
  · exact Or.inl ⟨k1, k2, k3 _ h.symm, by omega, by omega, trivial⟩
  · exact Or.inr (Or.inl ⟨tK M s0.toNat, by omega, by omega, k1, k2, k3 _ rfl, by omega, by omega, trivial⟩)
  · have w := tk_wd hb (p := s0.toNat) (by omega) (by omega)
    have h8 := pk_o (s := s1.toNat) (e := s2.toNat) h' ⟨by omega, by omega, by omega⟩
    have h9 := pk_bd (m := 256) (a := 0) (hi := 122) (by decide) (by decide) (N := tm M) (s := s1.toNat) (k := s2.toNat - s1.toNat) (fun i hi => by have := h8.2.2 i hi; omega)
    have h10 := pk_b2 (N := tm M) (s := s1.toNat) (k := s2.toNat - s1.toNat) (fun i hi => by have := h8.2.2 i hi; omega)
    have hp : (256 : Int) ^ (s2.toNat - s1.toNat) ≤ 18446744073709551616 := by
      have : s2.toNat - s1.toNat ≤ 8 := by omega
      have h8 : ∀ k, k ≤ 8 → (256 : Int) ^ k ≤ 18446744073709551616 := by decide
      exact h8 _ this
    exact Or.inr (Or.inr (Or.inl ⟨M 61 10, by omega, by omega, k1, k2, k3 _ h.symm, ⟨by decide, rfl⟩, Eq.mpr hp_143 (by rw [h1, h2]; exact h'), by omega, by omega, by omega, by omega, trivial⟩))
  · have w := tk_wd hb (p := s0.toNat) (by omega) (by omega)
    have w2 := wid_len (N := M) (s := tS M s0.toNat) (e := tE M s0.toNat) (by omega)
    have hq : 0 ≤ qwn k ∧ qwn k ≤ 9223372036854775807 := (by decide : ∀ k, k < 24 → 0 ≤ qwn k ∧ qwn k ≤ 9223372036854775807) k hk
    exact Or.inr (Or.inr (Or.inr (Or.inl ⟨M 61 10, (k : Int), by omega, by omega, by omega, by omega, k1, k2, k3 _ (by omega), ⟨by decide, rfl⟩, Eq.mpr hp_140 ⟨k, hk, rfl, h'⟩, by omega, by omega, by omega, by omega, trivial⟩)))
  · have w := tE_gt (N := M) (p := s0.toNat) (by omega)
    exact Or.inr (Or.inr (Or.inr (Or.inr (Or.inl ⟨k1, k2, k3 _ (by omega), by omega, by omega, by omega, trivial⟩))))
  · rcases tk_cl hb s0.toNat with q | q | q | q | q | q
    · omega
    · have := wid_bd (N := M) (s := tS M s0.toNat) (e := tE M s0.toNat); omega
    · omega
    · omega
    · have hs := sgs_bd q.2.2.1
      have hc : M 1 s1.toNat = M 1 (tS M s0.toNat) := by rw [show s1.toNat = tS M s0.toNat by omega]
      exact Or.inr (Or.inr (Or.inr (Or.inr (Or.inr ⟨M 1 (tS M s0.toNat), by omega, by omega, k1, k2, k3 _ (by omega), ⟨by omega, hc⟩, by omega, by omega, by omega, by omega, trivial⟩))))
    · omega
theorem rul_239 : Rul r_239 := by
  refine ⟨fun _ ρ M hm hB hF hG => ?_, fun gi gv hg => (by cases hg)⟩
  have H := cr_239 M (ρ 0) (ρ 1) (ρ 2) (ρ 3) (ρ 4) (hB _ List.mem_cons_self) (hB _ (List.mem_cons_of_mem _ List.mem_cons_self)) (hB _ (List.mem_cons_of_mem _ (List.mem_cons_of_mem _ List.mem_cons_self))) (hB _ (List.mem_cons_of_mem _ (List.mem_cons_of_mem _ (List.mem_cons_of_mem _ List.mem_cons_self)))) (hB _ (List.mem_cons_of_mem _ (List.mem_cons_of_mem _ (List.mem_cons_of_mem _ (List.mem_cons_of_mem _ List.mem_cons_self))))) (cvp 49 (x' := ((ρ 0))) (y' := (0 : Int)) (by show 0 + (1 * ρ 0 + 0) = _; omega) (by show 0 + 0 = _; omega) (hm _ List.mem_cons_self)) (cvm (c := 61) (by decide) (x' := (6 : Int)) (y' := ((ρ 1))) (by show 6 + 0 = _; omega) (by show 0 + (1 * ρ 1 + 0) = _; omega) (hm _ (List.mem_cons_of_mem _ List.mem_cons_self))) (cvm (c := 61) (by decide) (x' := (7 : Int)) (y' := ((ρ 2))) (by show 7 + 0 = _; omega) (by show 0 + (1 * ρ 2 + 0) = _; omega) (hm _ (List.mem_cons_of_mem _ (List.mem_cons_of_mem _ List.mem_cons_self)))) (cvm (c := 61) (by decide) (x' := (8 : Int)) (y' := ((ρ 3))) (by show 8 + 0 = _; omega) (by show 0 + (1 * ρ 3 + 0) = _; omega) (hm _ (List.mem_cons_of_mem _ (List.mem_cons_of_mem _ (List.mem_cons_of_mem _ List.mem_cons_self))))) (cvm (c := 61) (by decide) (x' := (9 : Int)) (y' := ((ρ 4))) (by show 9 + 0 = _; omega) (by show 0 + (1 * ρ 4 + 0) = _; omega) (hm _ (List.mem_cons_of_mem _ (List.mem_cons_of_mem _ (List.mem_cons_of_mem _ (List.mem_cons_of_mem _ List.mem_cons_self)))))) hG
  rcases H with H | H
  · skip
    obtain ⟨k0, k1, k2, f0, f1, -⟩ := H
    exact ⟨_, List.mem_cons_self, ρ, fun _ _ => rfl, (okM_c (pvp 45 (by show 0 + (1 * ρ 0 + 0) = _; omega) (by show 0 + (1 * ρ 1 + 0) = _; omega) k0) (okM_c (pvp 46 (by show 0 + (1 * ρ 0 + 0) = _; omega) (by show 0 + (1 * ρ 2 + 0) = _; omega) k1) (okM_c (pvp 47 (by show 0 + (1 * ρ 0 + 0) = _; omega) (by show 131071 + 0 = _; omega) k2) okM_n))), okB_n, (okF_c (by show 0 ≤ 0 + ((-1) * ρ 3 + 0); omega) (okF_c (by show 0 ≤ 0 + (1 * ρ 3 + 0); omega) okF_n))⟩
  rcases H with H | H
  · skip
    obtain ⟨t0, u0, v0, k0, k1, k2, f0, f1, -⟩ := H
    obtain ⟨ρ', ha, a0, a1, a2, a3, a4, a5⟩ : ∃ ρ' : Nat → Int, agr 5 ρ ρ' ∧ ρ' 0 = ρ 0 ∧ ρ' 1 = ρ 1 ∧ ρ' 2 = ρ 2 ∧ ρ' 3 = ρ 3 ∧ ρ' 4 = ρ 4 ∧ ρ' 5 = t0 := ⟨fun s => if s = 5 then t0 else ρ s, fun s hs => by show (if s = 5 then t0 else ρ s) = _; rw [if_neg (by omega)], rfl, rfl, rfl, rfl, rfl, rfl⟩
    exact ⟨_, (List.mem_cons_of_mem _ List.mem_cons_self), ρ', ha, (okM_c (pvp 45 (by show 0 + (1 * ρ' 0 + 0) = _; omega) (by show 0 + (1 * ρ' 1 + 0) = _; omega) k0) (okM_c (pvp 46 (by show 0 + (1 * ρ' 0 + 0) = _; omega) (by show 0 + (1 * ρ' 2 + 0) = _; omega) k1) (okM_c (pvp 47 (by show 0 + (1 * ρ' 0 + 0) = _; omega) (by show 0 + (1 * ρ' 5 + 0) = _; omega) k2) okM_n))), (okB_c (by omega) okB_n), (okF_c (by show 0 ≤ 1 + ((-1) * ρ' 3 + 0); omega) (okF_c (by show 0 ≤ (-1) + (1 * ρ' 3 + 0); omega) okF_n))⟩
  rcases H with H | H
  · skip
    obtain ⟨t0, u0, v0, k0, k1, k2, k3, k4, f0, f1, f2, f3, -⟩ := H
    obtain ⟨ρ', ha, a0, a1, a2, a3, a4, a5⟩ : ∃ ρ' : Nat → Int, agr 5 ρ ρ' ∧ ρ' 0 = ρ 0 ∧ ρ' 1 = ρ 1 ∧ ρ' 2 = ρ 2 ∧ ρ' 3 = ρ 3 ∧ ρ' 4 = ρ 4 ∧ ρ' 5 = t0 := ⟨fun s => if s = 5 then t0 else ρ s, fun s hs => by show (if s = 5 then t0 else ρ s) = _; rw [if_neg (by omega)], rfl, rfl, rfl, rfl, rfl, rfl⟩
    exact ⟨_, (List.mem_cons_of_mem _ (List.mem_cons_of_mem _ List.mem_cons_self)), ρ', ha, (okM_c (pvp 45 (by show 0 + (1 * ρ' 0 + 0) = _; omega) (by show 0 + (1 * ρ' 1 + 0) = _; omega) k0) (okM_c (pvp 46 (by show 0 + (1 * ρ' 0 + 0) = _; omega) (by show 0 + (1 * ρ' 2 + 0) = _; omega) k1) (okM_c (pvp 47 (by show 0 + (1 * ρ' 0 + 0) = _; omega) (by show 262143 + 0 = _; omega) k2) (okM_c (pvm (c := 61) (by decide) (by show 10 + 0 = _; omega) (by show 0 + (1 * ρ' 5 + 0) = _; omega) k3) (okM_c (pvp 143 (by show 0 + (2048 * ρ' 1 + (1 * ρ' 2 + 0)) = _; omega) (by show 0 + (1 * ρ' 5 + 0) = _; omega) k4) okM_n))))), (okB_c (by omega) okB_n), (okF_c (by show 0 ≤ 2 + ((-1) * ρ' 3 + 0); omega) (okF_c (by show 0 ≤ (-2) + (1 * ρ' 3 + 0); omega) (okF_c (by show 0 ≤ (-1) + ((-1) * ρ' 1 + (1 * ρ' 2 + 0)); omega) (okF_c (by show 0 ≤ 8 + (1 * ρ' 1 + ((-1) * ρ' 2 + 0)); omega) okF_n))))⟩
  rcases H with H | H
  · skip
    obtain ⟨t0, t1, u0, v0, u1, v1, k0, k1, k2, k3, k4, f0, f1, f2, f3, -⟩ := H
    obtain ⟨ρ', ha, a0, a1, a2, a3, a4, a5, a6⟩ : ∃ ρ' : Nat → Int, agr 5 ρ ρ' ∧ ρ' 0 = ρ 0 ∧ ρ' 1 = ρ 1 ∧ ρ' 2 = ρ 2 ∧ ρ' 3 = ρ 3 ∧ ρ' 4 = ρ 4 ∧ ρ' 5 = t0 ∧ ρ' 6 = t1 := ⟨fun s => if s = 6 then t1 else if s = 5 then t0 else ρ s, fun s hs => by show (if s = 6 then t1 else if s = 5 then t0 else ρ s) = _; rw [if_neg (by omega)]; rw [if_neg (by omega)], rfl, rfl, rfl, rfl, rfl, rfl, rfl⟩
    exact ⟨_, (List.mem_cons_of_mem _ (List.mem_cons_of_mem _ (List.mem_cons_of_mem _ List.mem_cons_self))), ρ', ha, (okM_c (pvp 45 (by show 0 + (1 * ρ' 0 + 0) = _; omega) (by show 0 + (1 * ρ' 1 + 0) = _; omega) k0) (okM_c (pvp 46 (by show 0 + (1 * ρ' 0 + 0) = _; omega) (by show 0 + (1 * ρ' 2 + 0) = _; omega) k1) (okM_c (pvp 47 (by show 0 + (1 * ρ' 0 + 0) = _; omega) (by show 262144 + (1 * ρ' 6 + 0) = _; omega) k2) (okM_c (pvm (c := 61) (by decide) (by show 10 + 0 = _; omega) (by show 0 + (1 * ρ' 5 + 0) = _; omega) k3) (okM_c (pvp 140 (by show 0 + (1 * ρ' 6 + 0) = _; omega) (by show 0 + (1 * ρ' 5 + 0) = _; omega) k4) okM_n))))), (okB_c (by omega) (okB_c (by omega) okB_n)), (okF_c (by show 0 ≤ 3 + ((-1) * ρ' 3 + 0); omega) (okF_c (by show 0 ≤ (-3) + (1 * ρ' 3 + 0); omega) (okF_c (by show 0 ≤ (-2) + ((-1) * ρ' 1 + (1 * ρ' 2 + 0)); omega) (okF_c (by show 0 ≤ 8 + (1 * ρ' 1 + ((-1) * ρ' 2 + 0)); omega) okF_n))))⟩
  rcases H with H | H
  · skip
    obtain ⟨k0, k1, k2, f0, f1, f2, -⟩ := H
    exact ⟨_, (List.mem_cons_of_mem _ (List.mem_cons_of_mem _ (List.mem_cons_of_mem _ (List.mem_cons_of_mem _ List.mem_cons_self)))), ρ, fun _ _ => rfl, (okM_c (pvp 45 (by show 0 + (1 * ρ 0 + 0) = _; omega) (by show 0 + (1 * ρ 1 + 0) = _; omega) k0) (okM_c (pvp 46 (by show 0 + (1 * ρ 0 + 0) = _; omega) (by show 0 + (1 * ρ 2 + 0) = _; omega) k1) (okM_c (pvp 47 (by show 0 + (1 * ρ 0 + 0) = _; omega) (by show 393216 + (1 * ρ 4 + 0) = _; omega) k2) okM_n))), okB_n, (okF_c (by show 0 ≤ 4 + ((-1) * ρ 3 + 0); omega) (okF_c (by show 0 ≤ (-4) + (1 * ρ 3 + 0); omega) (okF_c (by show 0 ≤ (-1) + ((-1) * ρ 1 + (1 * ρ 2 + 0)); omega) okF_n)))⟩
  · skip
    obtain ⟨t0, u0, v0, k0, k1, k2, k3, f0, f1, f2, f3, -⟩ := H
    obtain ⟨ρ', ha, a0, a1, a2, a3, a4, a5⟩ : ∃ ρ' : Nat → Int, agr 5 ρ ρ' ∧ ρ' 0 = ρ 0 ∧ ρ' 1 = ρ 1 ∧ ρ' 2 = ρ 2 ∧ ρ' 3 = ρ 3 ∧ ρ' 4 = ρ 4 ∧ ρ' 5 = t0 := ⟨fun s => if s = 5 then t0 else ρ s, fun s hs => by show (if s = 5 then t0 else ρ s) = _; rw [if_neg (by omega)], rfl, rfl, rfl, rfl, rfl, rfl⟩
    exact ⟨_, (List.mem_cons_of_mem _ (List.mem_cons_of_mem _ (List.mem_cons_of_mem _ (List.mem_cons_of_mem _ (List.mem_cons_of_mem _ List.mem_cons_self))))), ρ', ha, (okM_c (pvp 45 (by show 0 + (1 * ρ' 0 + 0) = _; omega) (by show 0 + (1 * ρ' 1 + 0) = _; omega) k0) (okM_c (pvp 46 (by show 0 + (1 * ρ' 0 + 0) = _; omega) (by show 0 + (1 * ρ' 2 + 0) = _; omega) k1) (okM_c (pvp 47 (by show 0 + (1 * ρ' 0 + 0) = _; omega) (by show 524288 + (1 * ρ' 5 + 0) = _; omega) k2) (okM_c (pvm (c := 1) (by decide) (by show 0 + (1 * ρ' 1 + 0) = _; omega) (by show 0 + (1 * ρ' 5 + 0) = _; omega) k3) okM_n)))), (okB_c (by omega) okB_n), (okF_c (by show 0 ≤ 5 + ((-1) * ρ' 3 + 0); omega) (okF_c (by show 0 ≤ (-5) + (1 * ρ' 3 + 0); omega) (okF_c (by show 0 ≤ 1 + (1 * ρ' 1 + ((-1) * ρ' 2 + 0)); omega) (okF_c (by show 0 ≤ (-1) + ((-1) * ρ' 1 + (1 * ρ' 2 + 0)); omega) okF_n))))⟩
-- wkn12_0
theorem cr_240 (M : pM) (s0 s1 : Int) (b0 : 0 ≤ s0 ∧ s0 ≤ 23) (b1 : 0 ≤ s1 ∧ s1 ≤ 9223372036854775807) (m0 : HP 140 (s0) (s1) M) (f0 : 0 ≤ ((-1) * s1 + 7521414230229344623)) (hG : gI M) : (0 ≤ ((-1) * s0 + 11) ∧ True) ∨ (0 ≤ (s0 - 13) ∧ True) := by
  obtain ⟨k, w1, w2, w3⟩ := Eq.mp hp_140 m0
  have hk : k < 12 ∨ k = 12 ∨ 12 < k := by omega
  rcases hk with e | e | e
  · exact Or.inl ⟨by omega, trivial⟩
  · subst e
    rw [show qwn 12 = 7521414230229344624 by decide] at w3
    omega
  · exact Or.inr ⟨by omega, trivial⟩
theorem rul_240 : Rul r_240 := by
  refine ⟨fun _ ρ M hm hB hF hG => ?_, fun gi gv hg => (by cases hg)⟩
  have H := cr_240 M (ρ 0) (ρ 1) (hB _ List.mem_cons_self) (hB _ (List.mem_cons_of_mem _ List.mem_cons_self)) (cvp 140 (x' := ((ρ 0))) (y' := ((ρ 1))) (by show 0 + (1 * ρ 0 + 0) = _; omega) (by show 0 + (1 * ρ 1 + 0) = _; omega) (hm _ List.mem_cons_self)) (by have h := hF _ List.mem_cons_self; have h : 0 ≤ 7521414230229344623 + ((-1) * ρ 1 + 0) := h; omega) hG
  rcases H with H | H
  · skip
    obtain ⟨f0, -⟩ := H
    exact ⟨_, List.mem_cons_self, ρ, fun _ _ => rfl, okM_n, okB_n, (okF_c (by show 0 ≤ 11 + ((-1) * ρ 0 + 0); omega) okF_n)⟩
  · skip
    obtain ⟨f0, -⟩ := H
    exact ⟨_, (List.mem_cons_of_mem _ List.mem_cons_self), ρ, fun _ _ => rfl, okM_n, okB_n, (okF_c (by show 0 ≤ (-13) + (1 * ρ 0 + 0); omega) okF_n)⟩
-- wkn12_1
theorem cr_241 (M : pM) (s0 s1 : Int) (b0 : 0 ≤ s0 ∧ s0 ≤ 23) (b1 : 0 ≤ s1 ∧ s1 ≤ 9223372036854775807) (m0 : HP 140 (s0) (s1) M) (f0 : 0 ≤ (s1 - 7521414230229344625)) (hG : gI M) : (0 ≤ ((-1) * s0 + 11) ∧ True) ∨ (0 ≤ (s0 - 13) ∧ True) := by
  obtain ⟨k, w1, w2, w3⟩ := Eq.mp hp_140 m0
  have hk : k < 12 ∨ k = 12 ∨ 12 < k := by omega
  rcases hk with e | e | e
  · exact Or.inl ⟨by omega, trivial⟩
  · subst e
    rw [show qwn 12 = 7521414230229344624 by decide] at w3
    omega
  · exact Or.inr ⟨by omega, trivial⟩
theorem rul_241 : Rul r_241 := by
  refine ⟨fun _ ρ M hm hB hF hG => ?_, fun gi gv hg => (by cases hg)⟩
  have H := cr_241 M (ρ 0) (ρ 1) (hB _ List.mem_cons_self) (hB _ (List.mem_cons_of_mem _ List.mem_cons_self)) (cvp 140 (x' := ((ρ 0))) (y' := ((ρ 1))) (by show 0 + (1 * ρ 0 + 0) = _; omega) (by show 0 + (1 * ρ 1 + 0) = _; omega) (hm _ List.mem_cons_self)) (by have h := hF _ List.mem_cons_self; have h : 0 ≤ (-7521414230229344625) + (1 * ρ 1 + 0) := h; omega) hG
  rcases H with H | H
  · skip
    obtain ⟨f0, -⟩ := H
    exact ⟨_, List.mem_cons_self, ρ, fun _ _ => rfl, okM_n, okB_n, (okF_c (by show 0 ≤ 11 + ((-1) * ρ 0 + 0); omega) okF_n)⟩
  · skip
    obtain ⟨f0, -⟩ := H
    exact ⟨_, (List.mem_cons_of_mem _ List.mem_cons_self), ρ, fun _ _ => rfl, okM_n, okB_n, (okF_c (by show 0 ≤ (-13) + (1 * ρ 0 + 0); omega) okF_n)⟩
-- wkq12
theorem cr_242 (M : pM) (s0 s1 : Int) (b0 : 0 ≤ s0 ∧ s0 ≤ 23) (b1 : 0 ≤ s1 ∧ s1 ≤ 9223372036854775807) (m0 : HP 140 (s0) (s1) M) (f0 : 0 ≤ ((-1) * s1 + 7521414230229344624)) (f1 : 0 ≤ (s1 - 7521414230229344624)) (hG : gI M) : (0 ≤ ((-1) * s0 + 12) ∧ 0 ≤ (s0 - 12) ∧ True) := by
  obtain ⟨k, w1, w2, w3⟩ := Eq.mp hp_140 m0
  have hk : k = 12 := (by decide : ∀ k, k < 24 → qwn k = 7521414230229344624 → k = 12) k w1 (by omega)
  exact ⟨by omega, by omega, trivial⟩
theorem rul_242 : Rul r_242 := by
  refine ⟨fun _ ρ M hm hB hF hG => ?_, fun gi gv hg => (by cases hg)⟩
  have H := cr_242 M (ρ 0) (ρ 1) (hB _ List.mem_cons_self) (hB _ (List.mem_cons_of_mem _ List.mem_cons_self)) (cvp 140 (x' := ((ρ 0))) (y' := ((ρ 1))) (by show 0 + (1 * ρ 0 + 0) = _; omega) (by show 0 + (1 * ρ 1 + 0) = _; omega) (hm _ List.mem_cons_self)) (by have h := hF _ List.mem_cons_self; have h : 0 ≤ 7521414230229344624 + ((-1) * ρ 1 + 0) := h; omega) (by have h := hF _ (List.mem_cons_of_mem _ List.mem_cons_self); have h : 0 ≤ (-7521414230229344624) + (1 * ρ 1 + 0) := h; omega) hG
  obtain ⟨f0, f1, -⟩ := H
  exact ⟨_, List.mem_cons_self, ρ, fun _ _ => rfl, okM_n, okB_n, (okF_c (by show 0 ≤ 12 + ((-1) * ρ 0 + 0); omega) (okF_c (by show 0 ≤ (-12) + (1 * ρ 0 + 0); omega) okF_n))⟩
-- tc0
theorem cr_243 (M : pM)  (hG : gI M) : (HP 158 (0 : Int) (0 : Int) M ∧ True) := by
  exact ⟨Eq.mpr hp_158 ⟨by decide, by decide, fun i hi => by omega⟩, trivial⟩
theorem rul_243 : Rul r_243 := by
  refine ⟨fun _ ρ M hm hB hF hG => ?_, fun gi gv hg => (by cases hg)⟩
  have H := cr_243 M hG
  obtain ⟨k0, -⟩ := H
  exact ⟨_, List.mem_cons_self, ρ, fun _ _ => rfl, (okM_c (pvp 158 (by show 0 + 0 = _; omega) (by show 0 + 0 = _; omega) k0) okM_n), okB_n, okF_n⟩
-- tcw
theorem cr_244 (M : pM) (s0 s1 : Int) (b0 : 0 ≤ s0 ∧ s0 ≤ 1900) (b1 : (-128) ≤ s1 ∧ s1 ≤ 127) (m0 : HP 158 (s0) (0 : Int) M) (m1 : (0 ≤ (s0) ∧ M 62 (s0).toNat = (s1))) (hG : gI M) : (HP 158 (s0 + 1) (0 : Int) (st M 63 (s0).toNat (s1)) ∧ True) := by
  obtain ⟨h1, h2, h3⟩ := Eq.mp hp_158 m0
  refine ⟨Eq.mpr hp_158 ⟨by omega, by omega, fun i hi => ?_⟩, trivial⟩
  rw [cw0, show st M 63 (s0).toNat (s1) 62 i = M 62 i from if_neg (fun h => absurd h.1 (by decide))]
  by_cases e : i = s0.toNat
  · rw [if_pos e, e]; exact m1.2.symm
  · rw [if_neg e]; exact h3 i (by omega)
theorem rul_244 : Rul r_244 := by
  refine ⟨fun h => (by cases h), fun gi gv hg ρ M hm hB hF hG => ?_⟩
  obtain ⟨g1, g2⟩ := List.cons.inj (show ([aI ((0 : Int), ([(0, 1)] : List (Nat × Int))), aI ((0 : Int), ([(1, 1)] : List (Nat × Int)))] : List av) = [.inl gi, .inl gv] from hg)
  obtain ⟨g2, -⟩ := List.cons.inj g2
  cases g1
  cases g2
  have ei : ev ρ ((0 : Int), ([(0, 1)] : List (Nat × Int))) = ((ρ 0)) := by show 0 + (1 * ρ 0 + 0) = _; omega
  have ew : ev ρ ((0 : Int), ([(1, 1)] : List (Nat × Int))) = ((ρ 1)) := by show 0 + (1 * ρ 1 + 0) = _; omega
  rw [show (st M (ctj r_244) (ev ρ ((0 : Int), ([(0, 1)] : List (Nat × Int)))).toNat (ev ρ ((0 : Int), ([(1, 1)] : List (Nat × Int))))) = (st M 63 ((ρ 0)).toNat ((ρ 1))) from by rw [ei, ew]; rfl]
  have H := cr_244 M (ρ 0) (ρ 1) (hB _ List.mem_cons_self) (hB _ (List.mem_cons_of_mem _ List.mem_cons_self)) (cvp 158 (x' := ((ρ 0))) (y' := (0 : Int)) (by show 0 + (1 * ρ 0 + 0) = _; omega) (by show 0 + 0 = _; omega) (hm _ List.mem_cons_self)) (cvm (c := 62) (by decide) (x' := ((ρ 0))) (y' := ((ρ 1))) (by show 0 + (1 * ρ 0 + 0) = _; omega) (by show 0 + (1 * ρ 1 + 0) = _; omega) (hm _ (List.mem_cons_of_mem _ List.mem_cons_self))) hG
  obtain ⟨k0, -⟩ := H
  exact ⟨_, List.mem_cons_self, ρ, fun _ _ => rfl, (okM_c (pvp 158 (by show 1 + (1 * ρ 0 + 0) = _; omega) (by show 0 + 0 = _; omega) k0) okM_n), okB_n, okF_n⟩
-- trm
theorem cr_245 (M : pM) (s0 s1 : Int) (b0 : 0 ≤ s0 ∧ s0 ≤ 1900) (b1 : 0 ≤ s1 ∧ s1 ≤ 1900) (m0 : HP 158 (s0) (0 : Int) M) (m1 : HP 41 (s1) (0 : Int) M) (m2 : (0 ≤ (3 : Int) ∧ M 61 (3 : Int).toNat = (s1))) (m3 : (0 ≤ (1 : Int) ∧ M 2 (1 : Int).toNat = (s1))) (f0 : 0 ≤ (s0 + (-1) * s1)) (hG : gI M) : (HP 42 (0 : Int) (0 : Int) M ∧ True) := by
  obtain ⟨h1, h2, h3⟩ := Eq.mp hp_158 m0
  obtain ⟨g1, g2, g3⟩ := Eq.mp hp_41 m1
  have e3 : M 61 3 = s1 := m2.2
  have e1 : M 2 1 = s1 := m3.2
  refine ⟨Eq.mpr hp_42 ⟨by omega, by omega, by omega, fun i hi => ?_⟩, trivial⟩
  unfold tN at hi
  rw [h3 i (by omega)]
  exact g3 i (by omega)
theorem rul_245 : Rul r_245 := by
  refine ⟨fun _ ρ M hm hB hF hG => ?_, fun gi gv hg => (by cases hg)⟩
  have H := cr_245 M (ρ 0) (ρ 1) (hB _ List.mem_cons_self) (hB _ (List.mem_cons_of_mem _ List.mem_cons_self)) (cvp 158 (x' := ((ρ 0))) (y' := (0 : Int)) (by show 0 + (1 * ρ 0 + 0) = _; omega) (by show 0 + 0 = _; omega) (hm _ List.mem_cons_self)) (cvp 41 (x' := ((ρ 1))) (y' := (0 : Int)) (by show 0 + (1 * ρ 1 + 0) = _; omega) (by show 0 + 0 = _; omega) (hm _ (List.mem_cons_of_mem _ List.mem_cons_self))) (cvm (c := 61) (by decide) (x' := (3 : Int)) (y' := ((ρ 1))) (by show 3 + 0 = _; omega) (by show 0 + (1 * ρ 1 + 0) = _; omega) (hm _ (List.mem_cons_of_mem _ (List.mem_cons_of_mem _ List.mem_cons_self)))) (cvm (c := 2) (by decide) (x' := (1 : Int)) (y' := ((ρ 1))) (by show 1 + 0 = _; omega) (by show 0 + (1 * ρ 1 + 0) = _; omega) (hm _ (List.mem_cons_of_mem _ (List.mem_cons_of_mem _ (List.mem_cons_of_mem _ List.mem_cons_self))))) (by have h := hF _ List.mem_cons_self; have h : 0 ≤ 0 + (1 * ρ 0 + ((-1) * ρ 1 + 0)) := h; omega) hG
  obtain ⟨k0, -⟩ := H
  exact ⟨_, List.mem_cons_self, ρ, fun _ _ => rfl, (okM_c (pvp 42 (by show 0 + 0 = _; omega) (by show 0 + 0 = _; omega) k0) okM_n), okB_n, okF_n⟩
-- lnn0
theorem cr_246 (M : pM) (s0 s1 : Int) (b0 : 0 ≤ s0 ∧ s0 ≤ 1900) (b1 : (-1) ≤ s1 ∧ s1 ≤ 600000) (m0 : HP 47 (s0) (s1) M) (f0 : 0 ≤ ((-1) * s1 + 262159)) (hG : gI M) : (HP 272 (s0) (0 : Int) M ∧ True) := by
  have k : ltt (tm M) s0.toNat ≠ 3 := by
    unfold ltt
    rw [show tK (tm M) s0.toNat = _ from (q47 m0).2]
    unfold lty
    (repeat' split) <;> omega
  exact ⟨Eq.mpr hp_272 ⟨by omega, k⟩, trivial⟩
theorem rul_246 : Rul r_246 := by
  refine ⟨fun _ ρ M hm hB hF hG => ?_, fun gi gv hg => (by cases hg)⟩
  have H := cr_246 M (ρ 0) (ρ 1) (hB _ List.mem_cons_self) (hB _ (List.mem_cons_of_mem _ List.mem_cons_self)) (cvp 47 (x' := ((ρ 0))) (y' := ((ρ 1))) (by show 0 + (1 * ρ 0 + 0) = _; omega) (by show 0 + (1 * ρ 1 + 0) = _; omega) (hm _ List.mem_cons_self)) (by have h := hF _ List.mem_cons_self; have h : 0 ≤ 262159 + ((-1) * ρ 1 + 0) := h; omega) hG
  obtain ⟨k0, -⟩ := H
  exact ⟨_, List.mem_cons_self, ρ, fun _ _ => rfl, (okM_c (pvp 272 (by show 0 + (1 * ρ 0 + 0) = _; omega) (by show 0 + 0 = _; omega) k0) okM_n), okB_n, okF_n⟩
-- lnn1
theorem cr_247 (M : pM) (s0 s1 : Int) (b0 : 0 ≤ s0 ∧ s0 ≤ 1900) (b1 : (-1) ≤ s1 ∧ s1 ≤ 600000) (m0 : HP 47 (s0) (s1) M) (f0 : 0 ≤ (s1 - 262161)) (hG : gI M) : (HP 272 (s0) (0 : Int) M ∧ True) := by
  have k : ltt (tm M) s0.toNat ≠ 3 := by
    unfold ltt
    rw [show tK (tm M) s0.toNat = _ from (q47 m0).2]
    unfold lty
    (repeat' split) <;> omega
  exact ⟨Eq.mpr hp_272 ⟨by omega, k⟩, trivial⟩
theorem rul_247 : Rul r_247 := by
  refine ⟨fun _ ρ M hm hB hF hG => ?_, fun gi gv hg => (by cases hg)⟩
  have H := cr_247 M (ρ 0) (ρ 1) (hB _ List.mem_cons_self) (hB _ (List.mem_cons_of_mem _ List.mem_cons_self)) (cvp 47 (x' := ((ρ 0))) (y' := ((ρ 1))) (by show 0 + (1 * ρ 0 + 0) = _; omega) (by show 0 + (1 * ρ 1 + 0) = _; omega) (hm _ List.mem_cons_self)) (by have h := hF _ List.mem_cons_self; have h : 0 ≤ (-262161) + (1 * ρ 1 + 0) := h; omega) hG
  obtain ⟨k0, -⟩ := H
  exact ⟨_, List.mem_cons_self, ρ, fun _ _ => rfl, (okM_c (pvp 272 (by show 0 + (1 * ρ 0 + 0) = _; omega) (by show 0 + 0 = _; omega) k0) okM_n), okB_n, okF_n⟩
-- lnc0
theorem cr_248 (M : pM) (s0 s1 : Int) (b0 : 0 ≤ s0 ∧ s0 ≤ 1900) (b1 : (-1) ≤ s1 ∧ s1 ≤ 600000) (m0 : HP 47 (s0) (s1) M) (f0 : 0 ≤ ((-1) * s1 + 524347)) (hG : gI M) : (HP 273 (s0) (0 : Int) M ∧ True) := by
  have k : ltt (tm M) s0.toNat ≠ 4 := by
    unfold ltt
    rw [show tK (tm M) s0.toNat = _ from (q47 m0).2]
    unfold lty
    (repeat' split) <;> omega
  exact ⟨Eq.mpr hp_273 ⟨by omega, k⟩, trivial⟩
theorem rul_248 : Rul r_248 := by
  refine ⟨fun _ ρ M hm hB hF hG => ?_, fun gi gv hg => (by cases hg)⟩
  have H := cr_248 M (ρ 0) (ρ 1) (hB _ List.mem_cons_self) (hB _ (List.mem_cons_of_mem _ List.mem_cons_self)) (cvp 47 (x' := ((ρ 0))) (y' := ((ρ 1))) (by show 0 + (1 * ρ 0 + 0) = _; omega) (by show 0 + (1 * ρ 1 + 0) = _; omega) (hm _ List.mem_cons_self)) (by have h := hF _ List.mem_cons_self; have h : 0 ≤ 524347 + ((-1) * ρ 1 + 0) := h; omega) hG
  obtain ⟨k0, -⟩ := H
  exact ⟨_, List.mem_cons_self, ρ, fun _ _ => rfl, (okM_c (pvp 273 (by show 0 + (1 * ρ 0 + 0) = _; omega) (by show 0 + 0 = _; omega) k0) okM_n), okB_n, okF_n⟩
-- lnc1
theorem cr_249 (M : pM) (s0 s1 : Int) (b0 : 0 ≤ s0 ∧ s0 ≤ 1900) (b1 : (-1) ≤ s1 ∧ s1 ≤ 600000) (m0 : HP 47 (s0) (s1) M) (f0 : 0 ≤ (s1 - 524351)) (hG : gI M) : (HP 273 (s0) (0 : Int) M ∧ True) := by
  have k : ltt (tm M) s0.toNat ≠ 4 := by
    unfold ltt
    rw [show tK (tm M) s0.toNat = _ from (q47 m0).2]
    unfold lty
    (repeat' split) <;> omega
  exact ⟨Eq.mpr hp_273 ⟨by omega, k⟩, trivial⟩
theorem rul_249 : Rul r_249 := by
  refine ⟨fun _ ρ M hm hB hF hG => ?_, fun gi gv hg => (by cases hg)⟩
  have H := cr_249 M (ρ 0) (ρ 1) (hB _ List.mem_cons_self) (hB _ (List.mem_cons_of_mem _ List.mem_cons_self)) (cvp 47 (x' := ((ρ 0))) (y' := ((ρ 1))) (by show 0 + (1 * ρ 0 + 0) = _; omega) (by show 0 + (1 * ρ 1 + 0) = _; omega) (hm _ List.mem_cons_self)) (by have h := hF _ List.mem_cons_self; have h : 0 ≤ (-524351) + (1 * ρ 1 + 0) := h; omega) hG
  obtain ⟨k0, -⟩ := H
  exact ⟨_, List.mem_cons_self, ρ, fun _ _ => rfl, (okM_c (pvp 273 (by show 0 + (1 * ρ 0 + 0) = _; omega) (by show 0 + 0 = _; omega) k0) okM_n), okB_n, okF_n⟩
-- hdw
theorem cr_250 (M : pM) (s0 s1 s2 s3 s4 : Int) (b0 : 0 ≤ s0 ∧ s0 ≤ 1900) (b1 : 0 ≤ s1 ∧ s1 ≤ 1900) (b2 : 0 ≤ s2 ∧ s2 ≤ 1900) (b3 : 0 ≤ s3 ∧ s3 ≤ 4) (b4 : (-2147483648) ≤ s4 ∧ s4 ≤ 2147483647) (m0 : HP 48 (s0) (0 : Int) M) (m1 : (0 ≤ (4 : Int) ∧ M 2 (4 : Int).toNat = (s1))) (m2 : (0 ≤ (2 : Int) ∧ M 2 (2 : Int).toNat = (s2))) (m3 : (0 ≤ (3 : Int) ∧ M 2 (3 : Int).toNat = (s3))) (m4 : (0 ≤ (5 : Int) ∧ M 2 (5 : Int).toNat = (s4))) (hG : gI M) : (HP 45 (s0) (s1) M ∧ HP 46 (s0) (s2) M ∧ HP 47 (s0) (131072 * s3 + s4) M ∧ 0 ≤ (s4 + 1) ∧ 0 ≤ ((-1) * s3 + s4 + 3) ∧ 0 ≤ ((-1) * s4 + 9999) ∧ True) := by
  obtain ⟨⟨h0, hv⟩, h1, h2, h3⟩ := Eq.mp hp_48 m0
  rw [show M 2 4 = s1 from m1.2] at h1
  rw [show M 2 2 = s2 from m2.2] at h2
  rw [show M 2 5 = s4 from m4.2] at hv h3
  rw [show M 2 3 = s3 from m3.2] at h3
  have k1 : HP 45 s0 s1 M := Eq.mpr hp_45 ⟨h0, h1⟩
  have k2 : HP 46 s0 s2 M := Eq.mpr hp_46 ⟨h0, h2⟩
  have k3 : HP 47 s0 (131072 * s3 + s4) M := Eq.mpr hp_47 ⟨h0, h3.symm⟩
  have h4 : -1 ≤ s4 ∧ s3 - 3 ≤ s4 ∧ s4 ≤ 9999 := by
    rcases tk_cl (hby_M hG) s0.toNat with h | h | h | h | h | h
    · omega
    · have hw := wid_bd (N := M) (s := tS M s0.toNat) (e := tE M s0.toNat)
      omega
    · omega
    · omega
    · have hw := sgs_bd h.2.2.1
      omega
    · omega
  exact ⟨k1, k2, k3, by omega, by omega, by omega, trivial⟩
theorem rul_250 : Rul r_250 := by
  refine ⟨fun _ ρ M hm hB hF hG => ?_, fun gi gv hg => (by cases hg)⟩
  have H := cr_250 M (ρ 0) (ρ 1) (ρ 2) (ρ 3) (ρ 4) (hB _ List.mem_cons_self) (hB _ (List.mem_cons_of_mem _ List.mem_cons_self)) (hB _ (List.mem_cons_of_mem _ (List.mem_cons_of_mem _ List.mem_cons_self))) (hB _ (List.mem_cons_of_mem _ (List.mem_cons_of_mem _ (List.mem_cons_of_mem _ List.mem_cons_self)))) (hB _ (List.mem_cons_of_mem _ (List.mem_cons_of_mem _ (List.mem_cons_of_mem _ (List.mem_cons_of_mem _ List.mem_cons_self))))) (cvp 48 (x' := ((ρ 0))) (y' := (0 : Int)) (by show 0 + (1 * ρ 0 + 0) = _; omega) (by show 0 + 0 = _; omega) (hm _ List.mem_cons_self)) (cvm (c := 2) (by decide) (x' := (4 : Int)) (y' := ((ρ 1))) (by show 4 + 0 = _; omega) (by show 0 + (1 * ρ 1 + 0) = _; omega) (hm _ (List.mem_cons_of_mem _ List.mem_cons_self))) (cvm (c := 2) (by decide) (x' := (2 : Int)) (y' := ((ρ 2))) (by show 2 + 0 = _; omega) (by show 0 + (1 * ρ 2 + 0) = _; omega) (hm _ (List.mem_cons_of_mem _ (List.mem_cons_of_mem _ List.mem_cons_self)))) (cvm (c := 2) (by decide) (x' := (3 : Int)) (y' := ((ρ 3))) (by show 3 + 0 = _; omega) (by show 0 + (1 * ρ 3 + 0) = _; omega) (hm _ (List.mem_cons_of_mem _ (List.mem_cons_of_mem _ (List.mem_cons_of_mem _ List.mem_cons_self))))) (cvm (c := 2) (by decide) (x' := (5 : Int)) (y' := ((ρ 4))) (by show 5 + 0 = _; omega) (by show 0 + (1 * ρ 4 + 0) = _; omega) (hm _ (List.mem_cons_of_mem _ (List.mem_cons_of_mem _ (List.mem_cons_of_mem _ (List.mem_cons_of_mem _ List.mem_cons_self)))))) hG
  obtain ⟨k0, k1, k2, f0, f1, f2, -⟩ := H
  exact ⟨_, List.mem_cons_self, ρ, fun _ _ => rfl, (okM_c (pvp 45 (by show 0 + (1 * ρ 0 + 0) = _; omega) (by show 0 + (1 * ρ 1 + 0) = _; omega) k0) (okM_c (pvp 46 (by show 0 + (1 * ρ 0 + 0) = _; omega) (by show 0 + (1 * ρ 2 + 0) = _; omega) k1) (okM_c (pvp 47 (by show 0 + (1 * ρ 0 + 0) = _; omega) (by show 0 + (131072 * ρ 3 + (1 * ρ 4 + 0)) = _; omega) k2) okM_n))), okB_n, (okF_c (by show 0 ≤ 1 + (1 * ρ 4 + 0); omega) (okF_c (by show 0 ≤ 3 + ((-1) * ρ 3 + (1 * ρ 4 + 0)); omega) (okF_c (by show 0 ≤ 9999 + ((-1) * ρ 4 + 0); omega) okF_n)))⟩
-- lua0
theorem cr_251 (M : pM) (s0 s1 s2 s3 s4 : Int) (b0 : 0 ≤ s0 ∧ s0 ≤ 7) (b1 : 0 ≤ s1 ∧ s1 ≤ 1900) (b2 : 0 ≤ s2 ∧ s2 ≤ 60) (b3 : (-1) ≤ s3 ∧ s3 ≤ 600000) (b4 : 0 ≤ s4 ∧ s4 ≤ 1900) (m0 : HP 47 (s1) (s3) M) (m1 : HP 46 (s1) (s4) M) (f0 : 0 ≤ ((-1) * s2 + 59)) (f1 : 0 ≤ (s3 - 393216)) (f2 : 0 ≤ ((-1) * s3 + 403215)) (hG : gI M) : (HP 270 (131072 * s0 + 64 * s1 + s2 + 5242880) (s2 + 64 * s4 + 1048577) M ∧ True) := by
  have k : ltt (tm M) s1.toNat = 9 := by
    unfold ltt
    rw [show tK (tm M) s1.toNat = _ from (q47 m0).2]
    unfold lty
    (repeat' split) <;> omega
  have e : tE (tm M) s1.toNat = s4.toNat := by
    have := (q46 m1).2
    omega
  exact ⟨Eq.mpr hp_270 (gv_p 5 s0.toNat s1.toNat s2.toNat (by unfold lix; omega) (by omega) (by omega) (by omega) (by omega) (gv_y (gu_a (by omega) (by omega) k) (by unfold lkv; omega))), trivial⟩
theorem rul_251 : Rul r_251 := by
  refine ⟨fun _ ρ M hm hB hF hG => ?_, fun gi gv hg => (by cases hg)⟩
  have H := cr_251 M (ρ 0) (ρ 1) (ρ 2) (ρ 3) (ρ 4) (hB _ List.mem_cons_self) (hB _ (List.mem_cons_of_mem _ List.mem_cons_self)) (hB _ (List.mem_cons_of_mem _ (List.mem_cons_of_mem _ List.mem_cons_self))) (hB _ (List.mem_cons_of_mem _ (List.mem_cons_of_mem _ (List.mem_cons_of_mem _ List.mem_cons_self)))) (hB _ (List.mem_cons_of_mem _ (List.mem_cons_of_mem _ (List.mem_cons_of_mem _ (List.mem_cons_of_mem _ List.mem_cons_self))))) (cvp 47 (x' := ((ρ 1))) (y' := ((ρ 3))) (by show 0 + (1 * ρ 1 + 0) = _; omega) (by show 0 + (1 * ρ 3 + 0) = _; omega) (hm _ List.mem_cons_self)) (cvp 46 (x' := ((ρ 1))) (y' := ((ρ 4))) (by show 0 + (1 * ρ 1 + 0) = _; omega) (by show 0 + (1 * ρ 4 + 0) = _; omega) (hm _ (List.mem_cons_of_mem _ List.mem_cons_self))) (by have h := hF _ List.mem_cons_self; have h : 0 ≤ 59 + ((-1) * ρ 2 + 0) := h; omega) (by have h := hF _ (List.mem_cons_of_mem _ List.mem_cons_self); have h : 0 ≤ (-393216) + (1 * ρ 3 + 0) := h; omega) (by have h := hF _ (List.mem_cons_of_mem _ (List.mem_cons_of_mem _ List.mem_cons_self)); have h : 0 ≤ 403215 + ((-1) * ρ 3 + 0) := h; omega) hG
  obtain ⟨k0, -⟩ := H
  exact ⟨_, List.mem_cons_self, ρ, fun _ _ => rfl, (okM_c (pvp 270 (by show 5242880 + (131072 * ρ 0 + (64 * ρ 1 + (1 * ρ 2 + 0))) = _; omega) (by show 1048577 + (1 * ρ 2 + (64 * ρ 4 + 0)) = _; omega) k0) okM_n), okB_n, okF_n⟩
-- lua1
theorem cr_252 (M : pM) (s0 s1 s2 s3 s4 : Int) (b0 : 0 ≤ s0 ∧ s0 ≤ 7) (b1 : 0 ≤ s1 ∧ s1 ≤ 1900) (b2 : 0 ≤ s2 ∧ s2 ≤ 60) (b3 : (-1) ≤ s3 ∧ s3 ≤ 600000) (b4 : 0 ≤ s4 ∧ s4 ≤ 1900) (m0 : HP 47 (s1) (s3) M) (m1 : HP 46 (s1) (s4) M) (f0 : 0 ≤ ((-1) * s2 + 59)) (f1 : 0 ≤ (s3 - 262156)) (f2 : 0 ≤ ((-1) * s3 + 262156)) (hG : gI M) : (HP 270 (131072 * s0 + 64 * s1 + s2 + 5242880) (s2 + 64 * s4 + 1048577) M ∧ True) := by
  have k : ltt (tm M) s1.toNat = 9 := by
    unfold ltt
    rw [show tK (tm M) s1.toNat = _ from (q47 m0).2]
    unfold lty
    (repeat' split) <;> omega
  have e : tE (tm M) s1.toNat = s4.toNat := by
    have := (q46 m1).2
    omega
  exact ⟨Eq.mpr hp_270 (gv_p 5 s0.toNat s1.toNat s2.toNat (by unfold lix; omega) (by omega) (by omega) (by omega) (by omega) (gv_y (gu_a (by omega) (by omega) k) (by unfold lkv; omega))), trivial⟩
theorem rul_252 : Rul r_252 := by
  refine ⟨fun _ ρ M hm hB hF hG => ?_, fun gi gv hg => (by cases hg)⟩
  have H := cr_252 M (ρ 0) (ρ 1) (ρ 2) (ρ 3) (ρ 4) (hB _ List.mem_cons_self) (hB _ (List.mem_cons_of_mem _ List.mem_cons_self)) (hB _ (List.mem_cons_of_mem _ (List.mem_cons_of_mem _ List.mem_cons_self))) (hB _ (List.mem_cons_of_mem _ (List.mem_cons_of_mem _ (List.mem_cons_of_mem _ List.mem_cons_self)))) (hB _ (List.mem_cons_of_mem _ (List.mem_cons_of_mem _ (List.mem_cons_of_mem _ (List.mem_cons_of_mem _ List.mem_cons_self))))) (cvp 47 (x' := ((ρ 1))) (y' := ((ρ 3))) (by show 0 + (1 * ρ 1 + 0) = _; omega) (by show 0 + (1 * ρ 3 + 0) = _; omega) (hm _ List.mem_cons_self)) (cvp 46 (x' := ((ρ 1))) (y' := ((ρ 4))) (by show 0 + (1 * ρ 1 + 0) = _; omega) (by show 0 + (1 * ρ 4 + 0) = _; omega) (hm _ (List.mem_cons_of_mem _ List.mem_cons_self))) (by have h := hF _ List.mem_cons_self; have h : 0 ≤ 59 + ((-1) * ρ 2 + 0) := h; omega) (by have h := hF _ (List.mem_cons_of_mem _ List.mem_cons_self); have h : 0 ≤ (-262156) + (1 * ρ 3 + 0) := h; omega) (by have h := hF _ (List.mem_cons_of_mem _ (List.mem_cons_of_mem _ List.mem_cons_self)); have h : 0 ≤ 262156 + ((-1) * ρ 3 + 0) := h; omega) hG
  obtain ⟨k0, -⟩ := H
  exact ⟨_, List.mem_cons_self, ρ, fun _ _ => rfl, (okM_c (pvp 270 (by show 5242880 + (131072 * ρ 0 + (64 * ρ 1 + (1 * ρ 2 + 0))) = _; omega) (by show 1048577 + (1 * ρ 2 + (64 * ρ 4 + 0)) = _; omega) k0) okM_n), okB_n, okF_n⟩
-- lua2
theorem cr_253 (M : pM) (s0 s1 s2 s3 s4 : Int) (b0 : 0 ≤ s0 ∧ s0 ≤ 7) (b1 : 0 ≤ s1 ∧ s1 ≤ 1900) (b2 : 0 ≤ s2 ∧ s2 ≤ 60) (b3 : (-1) ≤ s3 ∧ s3 ≤ 600000) (b4 : 0 ≤ s4 ∧ s4 ≤ 1900) (m0 : HP 47 (s1) (s3) M) (m1 : HP 46 (s1) (s4) M) (f0 : 0 ≤ ((-1) * s2 + 59)) (f1 : 0 ≤ (s3 - 262161)) (f2 : 0 ≤ ((-1) * s3 + 262167)) (hG : gI M) : (HP 270 (131072 * s0 + 64 * s1 + s2 + 5242880) (s2 + 64 * s4 + 1048577) M ∧ True) := by
  have k : ltt (tm M) s1.toNat = 9 := by
    unfold ltt
    rw [show tK (tm M) s1.toNat = _ from (q47 m0).2]
    unfold lty
    (repeat' split) <;> omega
  have e : tE (tm M) s1.toNat = s4.toNat := by
    have := (q46 m1).2
    omega
  exact ⟨Eq.mpr hp_270 (gv_p 5 s0.toNat s1.toNat s2.toNat (by unfold lix; omega) (by omega) (by omega) (by omega) (by omega) (gv_y (gu_a (by omega) (by omega) k) (by unfold lkv; omega))), trivial⟩
theorem rul_253 : Rul r_253 := by
  refine ⟨fun _ ρ M hm hB hF hG => ?_, fun gi gv hg => (by cases hg)⟩
  have H := cr_253 M (ρ 0) (ρ 1) (ρ 2) (ρ 3) (ρ 4) (hB _ List.mem_cons_self) (hB _ (List.mem_cons_of_mem _ List.mem_cons_self)) (hB _ (List.mem_cons_of_mem _ (List.mem_cons_of_mem _ List.mem_cons_self))) (hB _ (List.mem_cons_of_mem _ (List.mem_cons_of_mem _ (List.mem_cons_of_mem _ List.mem_cons_self)))) (hB _ (List.mem_cons_of_mem _ (List.mem_cons_of_mem _ (List.mem_cons_of_mem _ (List.mem_cons_of_mem _ List.mem_cons_self))))) (cvp 47 (x' := ((ρ 1))) (y' := ((ρ 3))) (by show 0 + (1 * ρ 1 + 0) = _; omega) (by show 0 + (1 * ρ 3 + 0) = _; omega) (hm _ List.mem_cons_self)) (cvp 46 (x' := ((ρ 1))) (y' := ((ρ 4))) (by show 0 + (1 * ρ 1 + 0) = _; omega) (by show 0 + (1 * ρ 4 + 0) = _; omega) (hm _ (List.mem_cons_of_mem _ List.mem_cons_self))) (by have h := hF _ List.mem_cons_self; have h : 0 ≤ 59 + ((-1) * ρ 2 + 0) := h; omega) (by have h := hF _ (List.mem_cons_of_mem _ List.mem_cons_self); have h : 0 ≤ (-262161) + (1 * ρ 3 + 0) := h; omega) (by have h := hF _ (List.mem_cons_of_mem _ (List.mem_cons_of_mem _ List.mem_cons_self)); have h : 0 ≤ 262167 + ((-1) * ρ 3 + 0) := h; omega) hG
  obtain ⟨k0, -⟩ := H
  exact ⟨_, List.mem_cons_self, ρ, fun _ _ => rfl, (okM_c (pvp 270 (by show 5242880 + (131072 * ρ 0 + (64 * ρ 1 + (1 * ρ 2 + 0))) = _; omega) (by show 1048577 + (1 * ρ 2 + (64 * ρ 4 + 0)) = _; omega) k0) okM_n), okB_n, okF_n⟩
-- lue0
theorem cr_254 (M : pM) (s0 s1 s2 s3 : Int) (b0 : 0 ≤ s0 ∧ s0 ≤ 7) (b1 : 0 ≤ s1 ∧ s1 ≤ 1900) (b2 : 0 ≤ s2 ∧ s2 ≤ 60) (b3 : (-1) ≤ s3 ∧ s3 ≤ 600000) (m0 : HP 47 (s1) (s3) M) (f0 : 0 ≤ ((-1) * s3 + 262155)) (f1 : 0 ≤ ((-1) * s2 + 59)) (hG : gI M) : (HP 270 (131072 * s0 + 64 * s1 + s2 + 5242880) (s1) M ∧ True) := by
  have k7 : ltt (tm M) s1.toNat ≠ 7 := by
    unfold ltt
    rw [show tK (tm M) s1.toNat = _ from (q47 m0).2]
    unfold lty
    (repeat' split) <;> omega
  have k9 : ltt (tm M) s1.toNat ≠ 9 := by
    unfold ltt
    rw [show tK (tm M) s1.toNat = _ from (q47 m0).2]
    unfold lty
    (repeat' split) <;> omega
  exact ⟨Eq.mpr hp_270 (gv_p 5 s0.toNat s1.toNat s2.toNat (by unfold lix; omega) (by omega) (by omega) (by omega) (by omega) (gv_y (gu_e (by omega) (by omega) k7 k9) (by omega))), trivial⟩
theorem rul_254 : Rul r_254 := by
  refine ⟨fun _ ρ M hm hB hF hG => ?_, fun gi gv hg => (by cases hg)⟩
  have H := cr_254 M (ρ 0) (ρ 1) (ρ 2) (ρ 3) (hB _ List.mem_cons_self) (hB _ (List.mem_cons_of_mem _ List.mem_cons_self)) (hB _ (List.mem_cons_of_mem _ (List.mem_cons_of_mem _ List.mem_cons_self))) (hB _ (List.mem_cons_of_mem _ (List.mem_cons_of_mem _ (List.mem_cons_of_mem _ List.mem_cons_self)))) (cvp 47 (x' := ((ρ 1))) (y' := ((ρ 3))) (by show 0 + (1 * ρ 1 + 0) = _; omega) (by show 0 + (1 * ρ 3 + 0) = _; omega) (hm _ List.mem_cons_self)) (by have h := hF _ List.mem_cons_self; have h : 0 ≤ 262155 + ((-1) * ρ 3 + 0) := h; omega) (by have h := hF _ (List.mem_cons_of_mem _ List.mem_cons_self); have h : 0 ≤ 59 + ((-1) * ρ 2 + 0) := h; omega) hG
  obtain ⟨k0, -⟩ := H
  exact ⟨_, List.mem_cons_self, ρ, fun _ _ => rfl, (okM_c (pvp 270 (by show 5242880 + (131072 * ρ 0 + (64 * ρ 1 + (1 * ρ 2 + 0))) = _; omega) (by show 0 + (1 * ρ 1 + 0) = _; omega) k0) okM_n), okB_n, okF_n⟩
-- lue1
theorem cr_255 (M : pM) (s0 s1 s2 s3 : Int) (b0 : 0 ≤ s0 ∧ s0 ≤ 7) (b1 : 0 ≤ s1 ∧ s1 ≤ 1900) (b2 : 0 ≤ s2 ∧ s2 ≤ 60) (b3 : (-1) ≤ s3 ∧ s3 ≤ 600000) (m0 : HP 47 (s1) (s3) M) (f0 : 0 ≤ (s3 - 262157)) (f1 : 0 ≤ ((-1) * s3 + 262160)) (f2 : 0 ≤ ((-1) * s2 + 59)) (hG : gI M) : (HP 270 (131072 * s0 + 64 * s1 + s2 + 5242880) (s1) M ∧ True) := by
  have k7 : ltt (tm M) s1.toNat ≠ 7 := by
    unfold ltt
    rw [show tK (tm M) s1.toNat = _ from (q47 m0).2]
    unfold lty
    (repeat' split) <;> omega
  have k9 : ltt (tm M) s1.toNat ≠ 9 := by
    unfold ltt
    rw [show tK (tm M) s1.toNat = _ from (q47 m0).2]
    unfold lty
    (repeat' split) <;> omega
  exact ⟨Eq.mpr hp_270 (gv_p 5 s0.toNat s1.toNat s2.toNat (by unfold lix; omega) (by omega) (by omega) (by omega) (by omega) (gv_y (gu_e (by omega) (by omega) k7 k9) (by omega))), trivial⟩
theorem rul_255 : Rul r_255 := by
  refine ⟨fun _ ρ M hm hB hF hG => ?_, fun gi gv hg => (by cases hg)⟩
  have H := cr_255 M (ρ 0) (ρ 1) (ρ 2) (ρ 3) (hB _ List.mem_cons_self) (hB _ (List.mem_cons_of_mem _ List.mem_cons_self)) (hB _ (List.mem_cons_of_mem _ (List.mem_cons_of_mem _ List.mem_cons_self))) (hB _ (List.mem_cons_of_mem _ (List.mem_cons_of_mem _ (List.mem_cons_of_mem _ List.mem_cons_self)))) (cvp 47 (x' := ((ρ 1))) (y' := ((ρ 3))) (by show 0 + (1 * ρ 1 + 0) = _; omega) (by show 0 + (1 * ρ 3 + 0) = _; omega) (hm _ List.mem_cons_self)) (by have h := hF _ List.mem_cons_self; have h : 0 ≤ (-262157) + (1 * ρ 3 + 0) := h; omega) (by have h := hF _ (List.mem_cons_of_mem _ List.mem_cons_self); have h : 0 ≤ 262160 + ((-1) * ρ 3 + 0) := h; omega) (by have h := hF _ (List.mem_cons_of_mem _ (List.mem_cons_of_mem _ List.mem_cons_self)); have h : 0 ≤ 59 + ((-1) * ρ 2 + 0) := h; omega) hG
  obtain ⟨k0, -⟩ := H
  exact ⟨_, List.mem_cons_self, ρ, fun _ _ => rfl, (okM_c (pvp 270 (by show 5242880 + (131072 * ρ 0 + (64 * ρ 1 + (1 * ρ 2 + 0))) = _; omega) (by show 0 + (1 * ρ 1 + 0) = _; omega) k0) okM_n), okB_n, okF_n⟩
-- lue2
theorem cr_256 (M : pM) (s0 s1 s2 s3 : Int) (b0 : 0 ≤ s0 ∧ s0 ≤ 7) (b1 : 0 ≤ s1 ∧ s1 ≤ 1900) (b2 : 0 ≤ s2 ∧ s2 ≤ 60) (b3 : (-1) ≤ s3 ∧ s3 ≤ 600000) (m0 : HP 47 (s1) (s3) M) (f0 : 0 ≤ (s3 - 262168)) (f1 : 0 ≤ ((-1) * s3 + 393215)) (f2 : 0 ≤ ((-1) * s2 + 59)) (hG : gI M) : (HP 270 (131072 * s0 + 64 * s1 + s2 + 5242880) (s1) M ∧ True) := by
  have k7 : ltt (tm M) s1.toNat ≠ 7 := by
    unfold ltt
    rw [show tK (tm M) s1.toNat = _ from (q47 m0).2]
    unfold lty
    (repeat' split) <;> omega
  have k9 : ltt (tm M) s1.toNat ≠ 9 := by
    unfold ltt
    rw [show tK (tm M) s1.toNat = _ from (q47 m0).2]
    unfold lty
    (repeat' split) <;> omega
  exact ⟨Eq.mpr hp_270 (gv_p 5 s0.toNat s1.toNat s2.toNat (by unfold lix; omega) (by omega) (by omega) (by omega) (by omega) (gv_y (gu_e (by omega) (by omega) k7 k9) (by omega))), trivial⟩
theorem rul_256 : Rul r_256 := by
  refine ⟨fun _ ρ M hm hB hF hG => ?_, fun gi gv hg => (by cases hg)⟩
  have H := cr_256 M (ρ 0) (ρ 1) (ρ 2) (ρ 3) (hB _ List.mem_cons_self) (hB _ (List.mem_cons_of_mem _ List.mem_cons_self)) (hB _ (List.mem_cons_of_mem _ (List.mem_cons_of_mem _ List.mem_cons_self))) (hB _ (List.mem_cons_of_mem _ (List.mem_cons_of_mem _ (List.mem_cons_of_mem _ List.mem_cons_self)))) (cvp 47 (x' := ((ρ 1))) (y' := ((ρ 3))) (by show 0 + (1 * ρ 1 + 0) = _; omega) (by show 0 + (1 * ρ 3 + 0) = _; omega) (hm _ List.mem_cons_self)) (by have h := hF _ List.mem_cons_self; have h : 0 ≤ (-262168) + (1 * ρ 3 + 0) := h; omega) (by have h := hF _ (List.mem_cons_of_mem _ List.mem_cons_self); have h : 0 ≤ 393215 + ((-1) * ρ 3 + 0) := h; omega) (by have h := hF _ (List.mem_cons_of_mem _ (List.mem_cons_of_mem _ List.mem_cons_self)); have h : 0 ≤ 59 + ((-1) * ρ 2 + 0) := h; omega) hG
  obtain ⟨k0, -⟩ := H
  exact ⟨_, List.mem_cons_self, ρ, fun _ _ => rfl, (okM_c (pvp 270 (by show 5242880 + (131072 * ρ 0 + (64 * ρ 1 + (1 * ρ 2 + 0))) = _; omega) (by show 0 + (1 * ρ 1 + 0) = _; omega) k0) okM_n), okB_n, okF_n⟩
-- lue3
theorem cr_257 (M : pM) (s0 s1 s2 s3 : Int) (b0 : 0 ≤ s0 ∧ s0 ≤ 7) (b1 : 0 ≤ s1 ∧ s1 ≤ 1900) (b2 : 0 ≤ s2 ∧ s2 ≤ 60) (b3 : (-1) ≤ s3 ∧ s3 ≤ 600000) (m0 : HP 47 (s1) (s3) M) (f0 : 0 ≤ (s3 - 403216)) (f1 : 0 ≤ ((-1) * s3 + 524327)) (f2 : 0 ≤ ((-1) * s2 + 59)) (hG : gI M) : (HP 270 (131072 * s0 + 64 * s1 + s2 + 5242880) (s1) M ∧ True) := by
  have k7 : ltt (tm M) s1.toNat ≠ 7 := by
    unfold ltt
    rw [show tK (tm M) s1.toNat = _ from (q47 m0).2]
    unfold lty
    (repeat' split) <;> omega
  have k9 : ltt (tm M) s1.toNat ≠ 9 := by
    unfold ltt
    rw [show tK (tm M) s1.toNat = _ from (q47 m0).2]
    unfold lty
    (repeat' split) <;> omega
  exact ⟨Eq.mpr hp_270 (gv_p 5 s0.toNat s1.toNat s2.toNat (by unfold lix; omega) (by omega) (by omega) (by omega) (by omega) (gv_y (gu_e (by omega) (by omega) k7 k9) (by omega))), trivial⟩
theorem rul_257 : Rul r_257 := by
  refine ⟨fun _ ρ M hm hB hF hG => ?_, fun gi gv hg => (by cases hg)⟩
  have H := cr_257 M (ρ 0) (ρ 1) (ρ 2) (ρ 3) (hB _ List.mem_cons_self) (hB _ (List.mem_cons_of_mem _ List.mem_cons_self)) (hB _ (List.mem_cons_of_mem _ (List.mem_cons_of_mem _ List.mem_cons_self))) (hB _ (List.mem_cons_of_mem _ (List.mem_cons_of_mem _ (List.mem_cons_of_mem _ List.mem_cons_self)))) (cvp 47 (x' := ((ρ 1))) (y' := ((ρ 3))) (by show 0 + (1 * ρ 1 + 0) = _; omega) (by show 0 + (1 * ρ 3 + 0) = _; omega) (hm _ List.mem_cons_self)) (by have h := hF _ List.mem_cons_self; have h : 0 ≤ (-403216) + (1 * ρ 3 + 0) := h; omega) (by have h := hF _ (List.mem_cons_of_mem _ List.mem_cons_self); have h : 0 ≤ 524327 + ((-1) * ρ 3 + 0) := h; omega) (by have h := hF _ (List.mem_cons_of_mem _ (List.mem_cons_of_mem _ List.mem_cons_self)); have h : 0 ≤ 59 + ((-1) * ρ 2 + 0) := h; omega) hG
  obtain ⟨k0, -⟩ := H
  exact ⟨_, List.mem_cons_self, ρ, fun _ _ => rfl, (okM_c (pvp 270 (by show 5242880 + (131072 * ρ 0 + (64 * ρ 1 + (1 * ρ 2 + 0))) = _; omega) (by show 0 + (1 * ρ 1 + 0) = _; omega) k0) okM_n), okB_n, okF_n⟩
-- lue4
theorem cr_258 (M : pM) (s0 s1 s2 s3 : Int) (b0 : 0 ≤ s0 ∧ s0 ≤ 7) (b1 : 0 ≤ s1 ∧ s1 ≤ 1900) (b2 : 0 ≤ s2 ∧ s2 ≤ 60) (b3 : (-1) ≤ s3 ∧ s3 ≤ 600000) (m0 : HP 47 (s1) (s3) M) (f0 : 0 ≤ (s3 - 524329)) (f1 : 0 ≤ ((-1) * s2 + 59)) (hG : gI M) : (HP 270 (131072 * s0 + 64 * s1 + s2 + 5242880) (s1) M ∧ True) := by
  have k7 : ltt (tm M) s1.toNat ≠ 7 := by
    unfold ltt
    rw [show tK (tm M) s1.toNat = _ from (q47 m0).2]
    unfold lty
    (repeat' split) <;> omega
  have k9 : ltt (tm M) s1.toNat ≠ 9 := by
    unfold ltt
    rw [show tK (tm M) s1.toNat = _ from (q47 m0).2]
    unfold lty
    (repeat' split) <;> omega
  exact ⟨Eq.mpr hp_270 (gv_p 5 s0.toNat s1.toNat s2.toNat (by unfold lix; omega) (by omega) (by omega) (by omega) (by omega) (gv_y (gu_e (by omega) (by omega) k7 k9) (by omega))), trivial⟩
theorem rul_258 : Rul r_258 := by
  refine ⟨fun _ ρ M hm hB hF hG => ?_, fun gi gv hg => (by cases hg)⟩
  have H := cr_258 M (ρ 0) (ρ 1) (ρ 2) (ρ 3) (hB _ List.mem_cons_self) (hB _ (List.mem_cons_of_mem _ List.mem_cons_self)) (hB _ (List.mem_cons_of_mem _ (List.mem_cons_of_mem _ List.mem_cons_self))) (hB _ (List.mem_cons_of_mem _ (List.mem_cons_of_mem _ (List.mem_cons_of_mem _ List.mem_cons_self)))) (cvp 47 (x' := ((ρ 1))) (y' := ((ρ 3))) (by show 0 + (1 * ρ 1 + 0) = _; omega) (by show 0 + (1 * ρ 3 + 0) = _; omega) (hm _ List.mem_cons_self)) (by have h := hF _ List.mem_cons_self; have h : 0 ≤ (-524329) + (1 * ρ 3 + 0) := h; omega) (by have h := hF _ (List.mem_cons_of_mem _ List.mem_cons_self); have h : 0 ≤ 59 + ((-1) * ρ 2 + 0) := h; omega) hG
  obtain ⟨k0, -⟩ := H
  exact ⟨_, List.mem_cons_self, ρ, fun _ _ => rfl, (okM_c (pvp 270 (by show 5242880 + (131072 * ρ 0 + (64 * ρ 1 + (1 * ρ 2 + 0))) = _; omega) (by show 0 + (1 * ρ 1 + 0) = _; omega) k0) okM_n), okB_n, okF_n⟩
-- luf
theorem cr_259 (M : pM) (s0 s1 s2 : Int) (b0 : 0 ≤ s0 ∧ s0 ≤ 7) (b1 : 0 ≤ s1 ∧ s1 ≤ 1900) (b2 : 0 ≤ s2 ∧ s2 ≤ 60) (f0 : 0 ≤ (s2 - 60)) (hG : gI M) : (HP 270 (131072 * s0 + 64 * s1 + s2 + 5242880) (s1) M ∧ True) := by
  exact ⟨Eq.mpr hp_270 (gv_p 5 s0.toNat s1.toNat s2.toNat (by unfold lix; omega) (by omega) (by omega) (by omega) (by omega) (gv_y (gu_f (by omega) (by omega)) (by omega))), trivial⟩
theorem rul_259 : Rul r_259 := by
  refine ⟨fun _ ρ M hm hB hF hG => ?_, fun gi gv hg => (by cases hg)⟩
  have H := cr_259 M (ρ 0) (ρ 1) (ρ 2) (hB _ List.mem_cons_self) (hB _ (List.mem_cons_of_mem _ List.mem_cons_self)) (hB _ (List.mem_cons_of_mem _ (List.mem_cons_of_mem _ List.mem_cons_self))) (by have h := hF _ List.mem_cons_self; have h : 0 ≤ (-60) + (1 * ρ 2 + 0) := h; omega) hG
  obtain ⟨k0, -⟩ := H
  exact ⟨_, List.mem_cons_self, ρ, fun _ _ => rfl, (okM_c (pvp 270 (by show 5242880 + (131072 * ρ 0 + (64 * ρ 1 + (1 * ρ 2 + 0))) = _; omega) (by show 0 + (1 * ρ 1 + 0) = _; omega) k0) okM_n), okB_n, okF_n⟩
-- lub
theorem cr_260 (M : pM) (s0 s1 s2 : Int) (b0 : 0 ≤ s0 ∧ s0 ≤ 7) (b1 : 0 ≤ s1 ∧ s1 ≤ 1900) (b2 : 0 ≤ s2 ∧ s2 ≤ 60) (m0 : HP 47 (s1) (524328 : Int) M) (f0 : 0 ≤ ((-1) * s2 + 59)) (f1 : 0 ≤ (s0 - 7)) (hG : gI M) : (HP 270 (131072 * s0 + 64 * s1 + s2 + 5242880) (s1) M ∧ True) := by
  have k : ltt (tm M) s1.toNat = 7 := by
    unfold ltt
    rw [show tK (tm M) s1.toNat = _ from (q47 m0).2]
    unfold lty
    (repeat' split) <;> omega
  exact ⟨Eq.mpr hp_270 (gv_p 5 s0.toNat s1.toNat s2.toNat (by unfold lix; omega) (by omega) (by omega) (by omega) (by omega) (gv_y (gu_b (by omega) (by omega) k (by omega)) (by omega))), trivial⟩
theorem rul_260 : Rul r_260 := by
  refine ⟨fun _ ρ M hm hB hF hG => ?_, fun gi gv hg => (by cases hg)⟩
  have H := cr_260 M (ρ 0) (ρ 1) (ρ 2) (hB _ List.mem_cons_self) (hB _ (List.mem_cons_of_mem _ List.mem_cons_self)) (hB _ (List.mem_cons_of_mem _ (List.mem_cons_of_mem _ List.mem_cons_self))) (cvp 47 (x' := ((ρ 1))) (y' := (524328 : Int)) (by show 0 + (1 * ρ 1 + 0) = _; omega) (by show 524328 + 0 = _; omega) (hm _ List.mem_cons_self)) (by have h := hF _ List.mem_cons_self; have h : 0 ≤ 59 + ((-1) * ρ 2 + 0) := h; omega) (by have h := hF _ (List.mem_cons_of_mem _ List.mem_cons_self); have h : 0 ≤ (-7) + (1 * ρ 0 + 0) := h; omega) hG
  obtain ⟨k0, -⟩ := H
  exact ⟨_, List.mem_cons_self, ρ, fun _ _ => rfl, (okM_c (pvp 270 (by show 5242880 + (131072 * ρ 0 + (64 * ρ 1 + (1 * ρ 2 + 0))) = _; omega) (by show 0 + (1 * ρ 1 + 0) = _; omega) k0) okM_n), okB_n, okF_n⟩
-- luo
theorem cr_261 (M : pM) (s0 s1 s2 s3 s4 s5 s6 : Int) (b0 : 0 ≤ s0 ∧ s0 ≤ 7) (b1 : 0 ≤ s1 ∧ s1 ≤ 1900) (b2 : 0 ≤ s2 ∧ s2 ≤ 60) (b3 : 0 ≤ s3 ∧ s3 ≤ 1900) (b4 : 0 ≤ s4 ∧ s4 ≤ 60) (b5 : 0 ≤ s5 ∧ s5 ≤ 1900) (b6 : 0 ≤ s6 ∧ s6 ≤ 1900) (m0 : HP 47 (s1) (524328 : Int) M) (m1 : HP 46 (s1) (s3) M) (m2 : HP 270 (131072 * s0 + s2 + 64 * s3 + 131073) (s4 + 64 * s5 + 1048576) M) (m3 : HP 47 (s5) (524329 : Int) M) (m4 : HP 46 (s5) (s6) M) (f0 : 0 ≤ ((-1) * s2 + 59)) (f1 : 0 ≤ ((-1) * s0 + 6)) (hG : gI M) : (HP 270 (131072 * s0 + 64 * s1 + s2 + 5242880) (s4 + 64 * s6 + 1048576) M ∧ True) := by
  have k : ltt (tm M) s1.toNat = 7 := by
    unfold ltt
    rw [show tK (tm M) s1.toNat = _ from (q47 m0).2]
    unfold lty
    (repeat' split) <;> omega
  have e : tE (tm M) s1.toNat = s3.toNat := by
    have := (q46 m1).2
    omega
  have h : gVp (tm M) 0 (s0.toNat + 1) (tE (tm M) s1.toNat) (s2.toNat + 1) (lkv s5.toNat s4.toNat) := gv_y (gv_g (Eq.mp hp_270 m2) 0 (s0.toNat + 1) (tE (tm M) s1.toNat) (s2.toNat + 1) (by unfold lix; omega) (by omega) (by omega) (by omega)) (by unfold lkv; omega)
  have k8 : ltt (tm M) s5.toNat = 8 := by
    unfold ltt
    rw [show tK (tm M) s5.toNat = _ from (q47 m3).2]
    unfold lty
    (repeat' split) <;> omega
  have e2 : tE (tm M) s5.toNat = s6.toNat := by
    have := (q46 m4).2
    omega
  exact ⟨Eq.mpr hp_270 (gv_p 5 s0.toNat s1.toNat s2.toNat (by unfold lix; omega) (by omega) (by omega) (by omega) (by omega) (gv_y (gu_o (by omega) k (by omega) (by omega) h k8 (by omega)) (by unfold lkv; omega))), trivial⟩
theorem rul_261 : Rul r_261 := by
  refine ⟨fun _ ρ M hm hB hF hG => ?_, fun gi gv hg => (by cases hg)⟩
  have H := cr_261 M (ρ 0) (ρ 1) (ρ 2) (ρ 3) (ρ 4) (ρ 5) (ρ 6) (hB _ List.mem_cons_self) (hB _ (List.mem_cons_of_mem _ List.mem_cons_self)) (hB _ (List.mem_cons_of_mem _ (List.mem_cons_of_mem _ List.mem_cons_self))) (hB _ (List.mem_cons_of_mem _ (List.mem_cons_of_mem _ (List.mem_cons_of_mem _ List.mem_cons_self)))) (hB _ (List.mem_cons_of_mem _ (List.mem_cons_of_mem _ (List.mem_cons_of_mem _ (List.mem_cons_of_mem _ List.mem_cons_self))))) (hB _ (List.mem_cons_of_mem _ (List.mem_cons_of_mem _ (List.mem_cons_of_mem _ (List.mem_cons_of_mem _ (List.mem_cons_of_mem _ List.mem_cons_self)))))) (hB _ (List.mem_cons_of_mem _ (List.mem_cons_of_mem _ (List.mem_cons_of_mem _ (List.mem_cons_of_mem _ (List.mem_cons_of_mem _ (List.mem_cons_of_mem _ List.mem_cons_self))))))) (cvp 47 (x' := ((ρ 1))) (y' := (524328 : Int)) (by show 0 + (1 * ρ 1 + 0) = _; omega) (by show 524328 + 0 = _; omega) (hm _ List.mem_cons_self)) (cvp 46 (x' := ((ρ 1))) (y' := ((ρ 3))) (by show 0 + (1 * ρ 1 + 0) = _; omega) (by show 0 + (1 * ρ 3 + 0) = _; omega) (hm _ (List.mem_cons_of_mem _ List.mem_cons_self))) (cvp 270 (x' := (131072 * (ρ 0) + (ρ 2) + 64 * (ρ 3) + 131073)) (y' := ((ρ 4) + 64 * (ρ 5) + 1048576)) (by show 131073 + (131072 * ρ 0 + (1 * ρ 2 + (64 * ρ 3 + 0))) = _; omega) (by show 1048576 + (1 * ρ 4 + (64 * ρ 5 + 0)) = _; omega) (hm _ (List.mem_cons_of_mem _ (List.mem_cons_of_mem _ List.mem_cons_self)))) (cvp 47 (x' := ((ρ 5))) (y' := (524329 : Int)) (by show 0 + (1 * ρ 5 + 0) = _; omega) (by show 524329 + 0 = _; omega) (hm _ (List.mem_cons_of_mem _ (List.mem_cons_of_mem _ (List.mem_cons_of_mem _ List.mem_cons_self))))) (cvp 46 (x' := ((ρ 5))) (y' := ((ρ 6))) (by show 0 + (1 * ρ 5 + 0) = _; omega) (by show 0 + (1 * ρ 6 + 0) = _; omega) (hm _ (List.mem_cons_of_mem _ (List.mem_cons_of_mem _ (List.mem_cons_of_mem _ (List.mem_cons_of_mem _ List.mem_cons_self)))))) (by have h := hF _ List.mem_cons_self; have h : 0 ≤ 59 + ((-1) * ρ 2 + 0) := h; omega) (by have h := hF _ (List.mem_cons_of_mem _ List.mem_cons_self); have h : 0 ≤ 6 + ((-1) * ρ 0 + 0) := h; omega) hG
  obtain ⟨k0, -⟩ := H
  exact ⟨_, List.mem_cons_self, ρ, fun _ _ => rfl, (okM_c (pvp 270 (by show 5242880 + (131072 * ρ 0 + (64 * ρ 1 + (1 * ρ 2 + 0))) = _; omega) (by show 1048576 + (1 * ρ 4 + (64 * ρ 6 + 0)) = _; omega) k0) okM_n), okB_n, okF_n⟩
-- lux
theorem cr_262 (M : pM) (s0 s1 s2 s3 s4 : Int) (b0 : 0 ≤ s0 ∧ s0 ≤ 7) (b1 : 0 ≤ s1 ∧ s1 ≤ 1900) (b2 : 0 ≤ s2 ∧ s2 ≤ 60) (b3 : 0 ≤ s3 ∧ s3 ≤ 1900) (b4 : 0 ≤ s4 ∧ s4 ≤ 1900) (m0 : HP 47 (s1) (524328 : Int) M) (m1 : HP 46 (s1) (s3) M) (m2 : HP 270 (131072 * s0 + s2 + 64 * s3 + 131073) (s4) M) (f0 : 0 ≤ ((-1) * s2 + 59)) (f1 : 0 ≤ ((-1) * s0 + 6)) (hG : gI M) : (HP 270 (131072 * s0 + 64 * s1 + s2 + 5242880) (s4) M ∧ True) := by
  have k : ltt (tm M) s1.toNat = 7 := by
    unfold ltt
    rw [show tK (tm M) s1.toNat = _ from (q47 m0).2]
    unfold lty
    (repeat' split) <;> omega
  have e : tE (tm M) s1.toNat = s3.toNat := by
    have := (q46 m1).2
    omega
  have h := gv_g (Eq.mp hp_270 m2) 0 (s0.toNat + 1) (tE (tm M) s1.toNat) (s2.toNat + 1) (by unfold lix; omega) (by omega) (by omega) (by omega)
  exact ⟨Eq.mpr hp_270 (gv_p 5 s0.toNat s1.toNat s2.toNat (by unfold lix; omega) (by omega) (by omega) (by omega) (by omega) (gv_y (gu_x (by omega) k (by omega) (by omega) h) (by omega))), trivial⟩
theorem rul_262 : Rul r_262 := by
  refine ⟨fun _ ρ M hm hB hF hG => ?_, fun gi gv hg => (by cases hg)⟩
  have H := cr_262 M (ρ 0) (ρ 1) (ρ 2) (ρ 3) (ρ 4) (hB _ List.mem_cons_self) (hB _ (List.mem_cons_of_mem _ List.mem_cons_self)) (hB _ (List.mem_cons_of_mem _ (List.mem_cons_of_mem _ List.mem_cons_self))) (hB _ (List.mem_cons_of_mem _ (List.mem_cons_of_mem _ (List.mem_cons_of_mem _ List.mem_cons_self)))) (hB _ (List.mem_cons_of_mem _ (List.mem_cons_of_mem _ (List.mem_cons_of_mem _ (List.mem_cons_of_mem _ List.mem_cons_self))))) (cvp 47 (x' := ((ρ 1))) (y' := (524328 : Int)) (by show 0 + (1 * ρ 1 + 0) = _; omega) (by show 524328 + 0 = _; omega) (hm _ List.mem_cons_self)) (cvp 46 (x' := ((ρ 1))) (y' := ((ρ 3))) (by show 0 + (1 * ρ 1 + 0) = _; omega) (by show 0 + (1 * ρ 3 + 0) = _; omega) (hm _ (List.mem_cons_of_mem _ List.mem_cons_self))) (cvp 270 (x' := (131072 * (ρ 0) + (ρ 2) + 64 * (ρ 3) + 131073)) (y' := ((ρ 4))) (by show 131073 + (131072 * ρ 0 + (1 * ρ 2 + (64 * ρ 3 + 0))) = _; omega) (by show 0 + (1 * ρ 4 + 0) = _; omega) (hm _ (List.mem_cons_of_mem _ (List.mem_cons_of_mem _ List.mem_cons_self)))) (by have h := hF _ List.mem_cons_self; have h : 0 ≤ 59 + ((-1) * ρ 2 + 0) := h; omega) (by have h := hF _ (List.mem_cons_of_mem _ List.mem_cons_self); have h : 0 ≤ 6 + ((-1) * ρ 0 + 0) := h; omega) hG
  obtain ⟨k0, -⟩ := H
  exact ⟨_, List.mem_cons_self, ρ, fun _ _ => rfl, (okM_c (pvp 270 (by show 5242880 + (131072 * ρ 0 + (64 * ρ 1 + (1 * ρ 2 + 0))) = _; omega) (by show 0 + (1 * ρ 4 + 0) = _; omega) k0) okM_n), okB_n, okF_n⟩
-- luy0
theorem cr_263 (M : pM) (s0 s1 s2 s3 s4 s5 s6 : Int) (b0 : 0 ≤ s0 ∧ s0 ≤ 7) (b1 : 0 ≤ s1 ∧ s1 ≤ 1900) (b2 : 0 ≤ s2 ∧ s2 ≤ 60) (b3 : 0 ≤ s3 ∧ s3 ≤ 1900) (b4 : 0 ≤ s4 ∧ s4 ≤ 60) (b5 : 0 ≤ s5 ∧ s5 ≤ 1900) (b6 : (-1) ≤ s6 ∧ s6 ≤ 600000) (m0 : HP 47 (s1) (524328 : Int) M) (m1 : HP 46 (s1) (s3) M) (m2 : HP 270 (131072 * s0 + s2 + 64 * s3 + 131073) (s4 + 64 * s5 + 1048576) M) (m3 : HP 47 (s5) (s6) M) (f0 : 0 ≤ ((-1) * s2 + 59)) (f1 : 0 ≤ ((-1) * s0 + 6)) (f2 : 0 ≤ ((-1) * s6 + 524328)) (hG : gI M) : (HP 270 (131072 * s0 + 64 * s1 + s2 + 5242880) (s5) M ∧ True) := by
  have k : ltt (tm M) s1.toNat = 7 := by
    unfold ltt
    rw [show tK (tm M) s1.toNat = _ from (q47 m0).2]
    unfold lty
    (repeat' split) <;> omega
  have e : tE (tm M) s1.toNat = s3.toNat := by
    have := (q46 m1).2
    omega
  have h : gVp (tm M) 0 (s0.toNat + 1) (tE (tm M) s1.toNat) (s2.toNat + 1) (lkv s5.toNat s4.toNat) := gv_y (gv_g (Eq.mp hp_270 m2) 0 (s0.toNat + 1) (tE (tm M) s1.toNat) (s2.toNat + 1) (by unfold lix; omega) (by omega) (by omega) (by omega)) (by unfold lkv; omega)
  have k8 : ltt (tm M) s5.toNat ≠ 8 := by
    unfold ltt
    rw [show tK (tm M) s5.toNat = _ from (q47 m3).2]
    unfold lty
    (repeat' split) <;> omega
  exact ⟨Eq.mpr hp_270 (gv_p 5 s0.toNat s1.toNat s2.toNat (by unfold lix; omega) (by omega) (by omega) (by omega) (by omega) (gv_y (gu_y (by omega) k (by omega) (by omega) (by omega) h k8) (by omega))), trivial⟩
theorem rul_263 : Rul r_263 := by
  refine ⟨fun _ ρ M hm hB hF hG => ?_, fun gi gv hg => (by cases hg)⟩
  have H := cr_263 M (ρ 0) (ρ 1) (ρ 2) (ρ 3) (ρ 4) (ρ 5) (ρ 6) (hB _ List.mem_cons_self) (hB _ (List.mem_cons_of_mem _ List.mem_cons_self)) (hB _ (List.mem_cons_of_mem _ (List.mem_cons_of_mem _ List.mem_cons_self))) (hB _ (List.mem_cons_of_mem _ (List.mem_cons_of_mem _ (List.mem_cons_of_mem _ List.mem_cons_self)))) (hB _ (List.mem_cons_of_mem _ (List.mem_cons_of_mem _ (List.mem_cons_of_mem _ (List.mem_cons_of_mem _ List.mem_cons_self))))) (hB _ (List.mem_cons_of_mem _ (List.mem_cons_of_mem _ (List.mem_cons_of_mem _ (List.mem_cons_of_mem _ (List.mem_cons_of_mem _ List.mem_cons_self)))))) (hB _ (List.mem_cons_of_mem _ (List.mem_cons_of_mem _ (List.mem_cons_of_mem _ (List.mem_cons_of_mem _ (List.mem_cons_of_mem _ (List.mem_cons_of_mem _ List.mem_cons_self))))))) (cvp 47 (x' := ((ρ 1))) (y' := (524328 : Int)) (by show 0 + (1 * ρ 1 + 0) = _; omega) (by show 524328 + 0 = _; omega) (hm _ List.mem_cons_self)) (cvp 46 (x' := ((ρ 1))) (y' := ((ρ 3))) (by show 0 + (1 * ρ 1 + 0) = _; omega) (by show 0 + (1 * ρ 3 + 0) = _; omega) (hm _ (List.mem_cons_of_mem _ List.mem_cons_self))) (cvp 270 (x' := (131072 * (ρ 0) + (ρ 2) + 64 * (ρ 3) + 131073)) (y' := ((ρ 4) + 64 * (ρ 5) + 1048576)) (by show 131073 + (131072 * ρ 0 + (1 * ρ 2 + (64 * ρ 3 + 0))) = _; omega) (by show 1048576 + (1 * ρ 4 + (64 * ρ 5 + 0)) = _; omega) (hm _ (List.mem_cons_of_mem _ (List.mem_cons_of_mem _ List.mem_cons_self)))) (cvp 47 (x' := ((ρ 5))) (y' := ((ρ 6))) (by show 0 + (1 * ρ 5 + 0) = _; omega) (by show 0 + (1 * ρ 6 + 0) = _; omega) (hm _ (List.mem_cons_of_mem _ (List.mem_cons_of_mem _ (List.mem_cons_of_mem _ List.mem_cons_self))))) (by have h := hF _ List.mem_cons_self; have h : 0 ≤ 59 + ((-1) * ρ 2 + 0) := h; omega) (by have h := hF _ (List.mem_cons_of_mem _ List.mem_cons_self); have h : 0 ≤ 6 + ((-1) * ρ 0 + 0) := h; omega) (by have h := hF _ (List.mem_cons_of_mem _ (List.mem_cons_of_mem _ List.mem_cons_self)); have h : 0 ≤ 524328 + ((-1) * ρ 6 + 0) := h; omega) hG
  obtain ⟨k0, -⟩ := H
  exact ⟨_, List.mem_cons_self, ρ, fun _ _ => rfl, (okM_c (pvp 270 (by show 5242880 + (131072 * ρ 0 + (64 * ρ 1 + (1 * ρ 2 + 0))) = _; omega) (by show 0 + (1 * ρ 5 + 0) = _; omega) k0) okM_n), okB_n, okF_n⟩
-- luy1
theorem cr_264 (M : pM) (s0 s1 s2 s3 s4 s5 s6 : Int) (b0 : 0 ≤ s0 ∧ s0 ≤ 7) (b1 : 0 ≤ s1 ∧ s1 ≤ 1900) (b2 : 0 ≤ s2 ∧ s2 ≤ 60) (b3 : 0 ≤ s3 ∧ s3 ≤ 1900) (b4 : 0 ≤ s4 ∧ s4 ≤ 60) (b5 : 0 ≤ s5 ∧ s5 ≤ 1900) (b6 : (-1) ≤ s6 ∧ s6 ≤ 600000) (m0 : HP 47 (s1) (524328 : Int) M) (m1 : HP 46 (s1) (s3) M) (m2 : HP 270 (131072 * s0 + s2 + 64 * s3 + 131073) (s4 + 64 * s5 + 1048576) M) (m3 : HP 47 (s5) (s6) M) (f0 : 0 ≤ ((-1) * s2 + 59)) (f1 : 0 ≤ ((-1) * s0 + 6)) (f2 : 0 ≤ (s6 - 524330)) (hG : gI M) : (HP 270 (131072 * s0 + 64 * s1 + s2 + 5242880) (s5) M ∧ True) := by
  have k : ltt (tm M) s1.toNat = 7 := by
    unfold ltt
    rw [show tK (tm M) s1.toNat = _ from (q47 m0).2]
    unfold lty
    (repeat' split) <;> omega
  have e : tE (tm M) s1.toNat = s3.toNat := by
    have := (q46 m1).2
    omega
  have h : gVp (tm M) 0 (s0.toNat + 1) (tE (tm M) s1.toNat) (s2.toNat + 1) (lkv s5.toNat s4.toNat) := gv_y (gv_g (Eq.mp hp_270 m2) 0 (s0.toNat + 1) (tE (tm M) s1.toNat) (s2.toNat + 1) (by unfold lix; omega) (by omega) (by omega) (by omega)) (by unfold lkv; omega)
  have k8 : ltt (tm M) s5.toNat ≠ 8 := by
    unfold ltt
    rw [show tK (tm M) s5.toNat = _ from (q47 m3).2]
    unfold lty
    (repeat' split) <;> omega
  exact ⟨Eq.mpr hp_270 (gv_p 5 s0.toNat s1.toNat s2.toNat (by unfold lix; omega) (by omega) (by omega) (by omega) (by omega) (gv_y (gu_y (by omega) k (by omega) (by omega) (by omega) h k8) (by omega))), trivial⟩
theorem rul_264 : Rul r_264 := by
  refine ⟨fun _ ρ M hm hB hF hG => ?_, fun gi gv hg => (by cases hg)⟩
  have H := cr_264 M (ρ 0) (ρ 1) (ρ 2) (ρ 3) (ρ 4) (ρ 5) (ρ 6) (hB _ List.mem_cons_self) (hB _ (List.mem_cons_of_mem _ List.mem_cons_self)) (hB _ (List.mem_cons_of_mem _ (List.mem_cons_of_mem _ List.mem_cons_self))) (hB _ (List.mem_cons_of_mem _ (List.mem_cons_of_mem _ (List.mem_cons_of_mem _ List.mem_cons_self)))) (hB _ (List.mem_cons_of_mem _ (List.mem_cons_of_mem _ (List.mem_cons_of_mem _ (List.mem_cons_of_mem _ List.mem_cons_self))))) (hB _ (List.mem_cons_of_mem _ (List.mem_cons_of_mem _ (List.mem_cons_of_mem _ (List.mem_cons_of_mem _ (List.mem_cons_of_mem _ List.mem_cons_self)))))) (hB _ (List.mem_cons_of_mem _ (List.mem_cons_of_mem _ (List.mem_cons_of_mem _ (List.mem_cons_of_mem _ (List.mem_cons_of_mem _ (List.mem_cons_of_mem _ List.mem_cons_self))))))) (cvp 47 (x' := ((ρ 1))) (y' := (524328 : Int)) (by show 0 + (1 * ρ 1 + 0) = _; omega) (by show 524328 + 0 = _; omega) (hm _ List.mem_cons_self)) (cvp 46 (x' := ((ρ 1))) (y' := ((ρ 3))) (by show 0 + (1 * ρ 1 + 0) = _; omega) (by show 0 + (1 * ρ 3 + 0) = _; omega) (hm _ (List.mem_cons_of_mem _ List.mem_cons_self))) (cvp 270 (x' := (131072 * (ρ 0) + (ρ 2) + 64 * (ρ 3) + 131073)) (y' := ((ρ 4) + 64 * (ρ 5) + 1048576)) (by show 131073 + (131072 * ρ 0 + (1 * ρ 2 + (64 * ρ 3 + 0))) = _; omega) (by show 1048576 + (1 * ρ 4 + (64 * ρ 5 + 0)) = _; omega) (hm _ (List.mem_cons_of_mem _ (List.mem_cons_of_mem _ List.mem_cons_self)))) (cvp 47 (x' := ((ρ 5))) (y' := ((ρ 6))) (by show 0 + (1 * ρ 5 + 0) = _; omega) (by show 0 + (1 * ρ 6 + 0) = _; omega) (hm _ (List.mem_cons_of_mem _ (List.mem_cons_of_mem _ (List.mem_cons_of_mem _ List.mem_cons_self))))) (by have h := hF _ List.mem_cons_self; have h : 0 ≤ 59 + ((-1) * ρ 2 + 0) := h; omega) (by have h := hF _ (List.mem_cons_of_mem _ List.mem_cons_self); have h : 0 ≤ 6 + ((-1) * ρ 0 + 0) := h; omega) (by have h := hF _ (List.mem_cons_of_mem _ (List.mem_cons_of_mem _ List.mem_cons_self)); have h : 0 ≤ (-524330) + (1 * ρ 6 + 0) := h; omega) hG
  obtain ⟨k0, -⟩ := H
  exact ⟨_, List.mem_cons_self, ρ, fun _ _ => rfl, (okM_c (pvp 270 (by show 5242880 + (131072 * ρ 0 + (64 * ρ 1 + (1 * ρ 2 + 0))) = _; omega) (by show 0 + (1 * ρ 5 + 0) = _; omega) k0) okM_n), okB_n, okF_n⟩
-- lst4
theorem cr_265 (M : pM) (s0 s1 s2 s3 s4 : Int) (b0 : 0 ≤ s0 ∧ s0 ≤ 7) (b1 : 0 ≤ s1 ∧ s1 ≤ 1900) (b2 : 0 ≤ s2 ∧ s2 ≤ 60) (b3 : 0 ≤ s3 ∧ s3 ≤ 1900) (b4 : 0 ≤ s4 ∧ s4 ≤ 60) (m0 : HP 270 (131072 * s0 + 64 * s1 + s2 + 5242880) (64 * s3 + s4 + 1048576) M) (hG : gI M) : (HP 271 (131072 * s0 + 64 * s1 + s2 + 4194304) (64 * s3 + s4) M ∧ True) := by
  have h : gVp (tm M) 5 s0.toNat s1.toNat s2.toNat (lkv s3.toNat s4.toNat) := gv_y (gv_g (Eq.mp hp_270 m0) 5 s0.toNat s1.toNat s2.toNat (by unfold lix; omega) (by omega) (by omega) (by omega)) (by unfold lkv; omega)
  exact ⟨Eq.mpr hp_271 (px_p 4 s0.toNat s1.toNat s2.toNat s3.toNat s4.toNat (by unfold lix; omega) (by omega) (by omega) (by omega) (by omega) (by omega) (by omega) (by omega) (gs_t4 (by omega) h)), trivial⟩
theorem rul_265 : Rul r_265 := by
  refine ⟨fun _ ρ M hm hB hF hG => ?_, fun gi gv hg => (by cases hg)⟩
  have H := cr_265 M (ρ 0) (ρ 1) (ρ 2) (ρ 3) (ρ 4) (hB _ List.mem_cons_self) (hB _ (List.mem_cons_of_mem _ List.mem_cons_self)) (hB _ (List.mem_cons_of_mem _ (List.mem_cons_of_mem _ List.mem_cons_self))) (hB _ (List.mem_cons_of_mem _ (List.mem_cons_of_mem _ (List.mem_cons_of_mem _ List.mem_cons_self)))) (hB _ (List.mem_cons_of_mem _ (List.mem_cons_of_mem _ (List.mem_cons_of_mem _ (List.mem_cons_of_mem _ List.mem_cons_self))))) (cvp 270 (x' := (131072 * (ρ 0) + 64 * (ρ 1) + (ρ 2) + 5242880)) (y' := (64 * (ρ 3) + (ρ 4) + 1048576)) (by show 5242880 + (131072 * ρ 0 + (64 * ρ 1 + (1 * ρ 2 + 0))) = _; omega) (by show 1048576 + (64 * ρ 3 + (1 * ρ 4 + 0)) = _; omega) (hm _ List.mem_cons_self)) hG
  obtain ⟨k0, -⟩ := H
  exact ⟨_, List.mem_cons_self, ρ, fun _ _ => rfl, (okM_c (pvp 271 (by show 4194304 + (131072 * ρ 0 + (64 * ρ 1 + (1 * ρ 2 + 0))) = _; omega) (by show 0 + (64 * ρ 3 + (1 * ρ 4 + 0)) = _; omega) k0) okM_n), okB_n, okF_n⟩
-- lse4
theorem cr_266 (M : pM) (s0 s1 s2 s3 : Int) (b0 : 0 ≤ s0 ∧ s0 ≤ 7) (b1 : 0 ≤ s1 ∧ s1 ≤ 1900) (b2 : 0 ≤ s2 ∧ s2 ≤ 60) (b3 : 0 ≤ s3 ∧ s3 ≤ 1900) (m0 : HP 270 (131072 * s0 + 64 * s1 + s2 + 5242880) (s3) M) (hG : gI M) : (HP 270 (131072 * s0 + 64 * s1 + s2 + 4194304) (s3) M ∧ True) := by
  have h := gv_g (Eq.mp hp_270 m0) 5 s0.toNat s1.toNat s2.toNat (by unfold lix; omega) (by omega) (by omega) (by omega)
  exact ⟨Eq.mpr hp_270 (gv_p 4 s0.toNat s1.toNat s2.toNat (by unfold lix; omega) (by omega) (by omega) (by omega) (by omega) (gv_y (gs_e4 (by omega) h) (by omega))), trivial⟩
theorem rul_266 : Rul r_266 := by
  refine ⟨fun _ ρ M hm hB hF hG => ?_, fun gi gv hg => (by cases hg)⟩
  have H := cr_266 M (ρ 0) (ρ 1) (ρ 2) (ρ 3) (hB _ List.mem_cons_self) (hB _ (List.mem_cons_of_mem _ List.mem_cons_self)) (hB _ (List.mem_cons_of_mem _ (List.mem_cons_of_mem _ List.mem_cons_self))) (hB _ (List.mem_cons_of_mem _ (List.mem_cons_of_mem _ (List.mem_cons_of_mem _ List.mem_cons_self)))) (cvp 270 (x' := (131072 * (ρ 0) + 64 * (ρ 1) + (ρ 2) + 5242880)) (y' := ((ρ 3))) (by show 5242880 + (131072 * ρ 0 + (64 * ρ 1 + (1 * ρ 2 + 0))) = _; omega) (by show 0 + (1 * ρ 3 + 0) = _; omega) (hm _ List.mem_cons_self)) hG
  obtain ⟨k0, -⟩ := H
  exact ⟨_, List.mem_cons_self, ρ, fun _ _ => rfl, (okM_c (pvp 270 (by show 4194304 + (131072 * ρ 0 + (64 * ρ 1 + (1 * ρ 2 + 0))) = _; omega) (by show 0 + (1 * ρ 3 + 0) = _; omega) k0) okM_n), okB_n, okF_n⟩
-- lsn4_0
theorem cr_267 (M : pM) (s0 s1 s2 s3 s4 s5 s6 s7 : Int) (b0 : 0 ≤ s0 ∧ s0 ≤ 7) (b1 : 0 ≤ s1 ∧ s1 ≤ 1900) (b2 : 0 ≤ s2 ∧ s2 ≤ 60) (b3 : 0 ≤ s3 ∧ s3 ≤ 1900) (b4 : 0 ≤ s4 ∧ s4 ≤ 60) (b5 : 0 ≤ s5 ∧ s5 ≤ 1900) (b6 : 0 ≤ s6 ∧ s6 ≤ 1900) (b7 : 0 ≤ s7 ∧ s7 ≤ 60) (m0 : HP 271 (131072 * s0 + 64 * s1 + s2 + 4194304) (64 * s3 + s4) M) (m1 : HP 47 (s3) (524330 : Int) M) (m2 : HP 46 (s3) (s5) M) (m3 : HP 270 (131072 * s0 + s4 + 64 * s5 + 5242880) (64 * s6 + s7 + 1048576) M) (hG : gI M) : (HP 271 (131072 * s0 + 64 * s1 + s2 + 4194304) (64 * s6 + s7) M ∧ True) := by
  have hp := px_g (Eq.mp hp_271 m0) 4 s0.toNat s1.toNat s2.toNat s3.toNat s4.toNat (by unfold lix; omega) (by omega) (by omega) (by omega) (by omega) (by omega)
  have k : ltt (tm M) s3.toNat = 6 := by
    unfold ltt
    rw [show tK (tm M) s3.toNat = _ from (q47 m1).2]
    unfold lty
    (repeat' split) <;> omega
  have e : tE (tm M) s3.toNat = s5.toNat := by
    have := (q46 m2).2
    omega
  have h : gVp (tm M) 5 s0.toNat (tE (tm M) s3.toNat) s4.toNat (lkv s6.toNat s7.toNat) := gv_y (gv_g (Eq.mp hp_270 m3) 5 s0.toNat (tE (tm M) s3.toNat) s4.toNat (by unfold lix; omega) (by omega) (by omega) (by omega)) (by unfold lkv; omega)
  exact ⟨Eq.mpr hp_271 (px_p 4 s0.toNat s1.toNat s2.toNat s6.toNat s7.toNat (by unfold lix; omega) (by omega) (by omega) (by omega) (by omega) (by omega) (by omega) (by omega) (gs_n4 (by omega) hp k h)), trivial⟩
theorem rul_267 : Rul r_267 := by
  refine ⟨fun _ ρ M hm hB hF hG => ?_, fun gi gv hg => (by cases hg)⟩
  have H := cr_267 M (ρ 0) (ρ 1) (ρ 2) (ρ 3) (ρ 4) (ρ 5) (ρ 6) (ρ 7) (hB _ List.mem_cons_self) (hB _ (List.mem_cons_of_mem _ List.mem_cons_self)) (hB _ (List.mem_cons_of_mem _ (List.mem_cons_of_mem _ List.mem_cons_self))) (hB _ (List.mem_cons_of_mem _ (List.mem_cons_of_mem _ (List.mem_cons_of_mem _ List.mem_cons_self)))) (hB _ (List.mem_cons_of_mem _ (List.mem_cons_of_mem _ (List.mem_cons_of_mem _ (List.mem_cons_of_mem _ List.mem_cons_self))))) (hB _ (List.mem_cons_of_mem _ (List.mem_cons_of_mem _ (List.mem_cons_of_mem _ (List.mem_cons_of_mem _ (List.mem_cons_of_mem _ List.mem_cons_self)))))) (hB _ (List.mem_cons_of_mem _ (List.mem_cons_of_mem _ (List.mem_cons_of_mem _ (List.mem_cons_of_mem _ (List.mem_cons_of_mem _ (List.mem_cons_of_mem _ List.mem_cons_self))))))) (hB _ (List.mem_cons_of_mem _ (List.mem_cons_of_mem _ (List.mem_cons_of_mem _ (List.mem_cons_of_mem _ (List.mem_cons_of_mem _ (List.mem_cons_of_mem _ (List.mem_cons_of_mem _ List.mem_cons_self)))))))) (cvp 271 (x' := (131072 * (ρ 0) + 64 * (ρ 1) + (ρ 2) + 4194304)) (y' := (64 * (ρ 3) + (ρ 4))) (by show 4194304 + (131072 * ρ 0 + (64 * ρ 1 + (1 * ρ 2 + 0))) = _; omega) (by show 0 + (64 * ρ 3 + (1 * ρ 4 + 0)) = _; omega) (hm _ List.mem_cons_self)) (cvp 47 (x' := ((ρ 3))) (y' := (524330 : Int)) (by show 0 + (1 * ρ 3 + 0) = _; omega) (by show 524330 + 0 = _; omega) (hm _ (List.mem_cons_of_mem _ List.mem_cons_self))) (cvp 46 (x' := ((ρ 3))) (y' := ((ρ 5))) (by show 0 + (1 * ρ 3 + 0) = _; omega) (by show 0 + (1 * ρ 5 + 0) = _; omega) (hm _ (List.mem_cons_of_mem _ (List.mem_cons_of_mem _ List.mem_cons_self)))) (cvp 270 (x' := (131072 * (ρ 0) + (ρ 4) + 64 * (ρ 5) + 5242880)) (y' := (64 * (ρ 6) + (ρ 7) + 1048576)) (by show 5242880 + (131072 * ρ 0 + (1 * ρ 4 + (64 * ρ 5 + 0))) = _; omega) (by show 1048576 + (64 * ρ 6 + (1 * ρ 7 + 0)) = _; omega) (hm _ (List.mem_cons_of_mem _ (List.mem_cons_of_mem _ (List.mem_cons_of_mem _ List.mem_cons_self))))) hG
  obtain ⟨k0, -⟩ := H
  exact ⟨_, List.mem_cons_self, ρ, fun _ _ => rfl, (okM_c (pvp 271 (by show 4194304 + (131072 * ρ 0 + (64 * ρ 1 + (1 * ρ 2 + 0))) = _; omega) (by show 0 + (64 * ρ 6 + (1 * ρ 7 + 0)) = _; omega) k0) okM_n), okB_n, okF_n⟩
-- lsx4_0
theorem cr_268 (M : pM) (s0 s1 s2 s3 s4 s5 s6 : Int) (b0 : 0 ≤ s0 ∧ s0 ≤ 7) (b1 : 0 ≤ s1 ∧ s1 ≤ 1900) (b2 : 0 ≤ s2 ∧ s2 ≤ 60) (b3 : 0 ≤ s3 ∧ s3 ≤ 1900) (b4 : 0 ≤ s4 ∧ s4 ≤ 60) (b5 : 0 ≤ s5 ∧ s5 ≤ 1900) (b6 : 0 ≤ s6 ∧ s6 ≤ 1900) (m0 : HP 271 (131072 * s0 + 64 * s1 + s2 + 4194304) (64 * s3 + s4) M) (m1 : HP 47 (s3) (524330 : Int) M) (m2 : HP 46 (s3) (s5) M) (m3 : HP 270 (131072 * s0 + s4 + 64 * s5 + 5242880) (s6) M) (hG : gI M) : (HP 270 (131072 * s0 + 64 * s1 + s2 + 4194304) (s6) M ∧ True) := by
  have hp := px_g (Eq.mp hp_271 m0) 4 s0.toNat s1.toNat s2.toNat s3.toNat s4.toNat (by unfold lix; omega) (by omega) (by omega) (by omega) (by omega) (by omega)
  have k : ltt (tm M) s3.toNat = 6 := by
    unfold ltt
    rw [show tK (tm M) s3.toNat = _ from (q47 m1).2]
    unfold lty
    (repeat' split) <;> omega
  have e : tE (tm M) s3.toNat = s5.toNat := by
    have := (q46 m2).2
    omega
  have h := gv_g (Eq.mp hp_270 m3) 5 s0.toNat (tE (tm M) s3.toNat) s4.toNat (by unfold lix; omega) (by omega) (by omega) (by omega)
  exact ⟨Eq.mpr hp_270 (gv_p 4 s0.toNat s1.toNat s2.toNat (by unfold lix; omega) (by omega) (by omega) (by omega) (by omega) (gv_y (gs_x4 (by omega) hp k h) (by omega))), trivial⟩
theorem rul_268 : Rul r_268 := by
  refine ⟨fun _ ρ M hm hB hF hG => ?_, fun gi gv hg => (by cases hg)⟩
  have H := cr_268 M (ρ 0) (ρ 1) (ρ 2) (ρ 3) (ρ 4) (ρ 5) (ρ 6) (hB _ List.mem_cons_self) (hB _ (List.mem_cons_of_mem _ List.mem_cons_self)) (hB _ (List.mem_cons_of_mem _ (List.mem_cons_of_mem _ List.mem_cons_self))) (hB _ (List.mem_cons_of_mem _ (List.mem_cons_of_mem _ (List.mem_cons_of_mem _ List.mem_cons_self)))) (hB _ (List.mem_cons_of_mem _ (List.mem_cons_of_mem _ (List.mem_cons_of_mem _ (List.mem_cons_of_mem _ List.mem_cons_self))))) (hB _ (List.mem_cons_of_mem _ (List.mem_cons_of_mem _ (List.mem_cons_of_mem _ (List.mem_cons_of_mem _ (List.mem_cons_of_mem _ List.mem_cons_self)))))) (hB _ (List.mem_cons_of_mem _ (List.mem_cons_of_mem _ (List.mem_cons_of_mem _ (List.mem_cons_of_mem _ (List.mem_cons_of_mem _ (List.mem_cons_of_mem _ List.mem_cons_self))))))) (cvp 271 (x' := (131072 * (ρ 0) + 64 * (ρ 1) + (ρ 2) + 4194304)) (y' := (64 * (ρ 3) + (ρ 4))) (by show 4194304 + (131072 * ρ 0 + (64 * ρ 1 + (1 * ρ 2 + 0))) = _; omega) (by show 0 + (64 * ρ 3 + (1 * ρ 4 + 0)) = _; omega) (hm _ List.mem_cons_self)) (cvp 47 (x' := ((ρ 3))) (y' := (524330 : Int)) (by show 0 + (1 * ρ 3 + 0) = _; omega) (by show 524330 + 0 = _; omega) (hm _ (List.mem_cons_of_mem _ List.mem_cons_self))) (cvp 46 (x' := ((ρ 3))) (y' := ((ρ 5))) (by show 0 + (1 * ρ 3 + 0) = _; omega) (by show 0 + (1 * ρ 5 + 0) = _; omega) (hm _ (List.mem_cons_of_mem _ (List.mem_cons_of_mem _ List.mem_cons_self)))) (cvp 270 (x' := (131072 * (ρ 0) + (ρ 4) + 64 * (ρ 5) + 5242880)) (y' := ((ρ 6))) (by show 5242880 + (131072 * ρ 0 + (1 * ρ 4 + (64 * ρ 5 + 0))) = _; omega) (by show 0 + (1 * ρ 6 + 0) = _; omega) (hm _ (List.mem_cons_of_mem _ (List.mem_cons_of_mem _ (List.mem_cons_of_mem _ List.mem_cons_self))))) hG
  obtain ⟨k0, -⟩ := H
  exact ⟨_, List.mem_cons_self, ρ, fun _ _ => rfl, (okM_c (pvp 270 (by show 4194304 + (131072 * ρ 0 + (64 * ρ 1 + (1 * ρ 2 + 0))) = _; omega) (by show 0 + (1 * ρ 6 + 0) = _; omega) k0) okM_n), okB_n, okF_n⟩
-- lsn4_1
theorem cr_269 (M : pM) (s0 s1 s2 s3 s4 s5 s6 s7 : Int) (b0 : 0 ≤ s0 ∧ s0 ≤ 7) (b1 : 0 ≤ s1 ∧ s1 ≤ 1900) (b2 : 0 ≤ s2 ∧ s2 ≤ 60) (b3 : 0 ≤ s3 ∧ s3 ≤ 1900) (b4 : 0 ≤ s4 ∧ s4 ≤ 60) (b5 : 0 ≤ s5 ∧ s5 ≤ 1900) (b6 : 0 ≤ s6 ∧ s6 ≤ 1900) (b7 : 0 ≤ s7 ∧ s7 ≤ 60) (m0 : HP 271 (131072 * s0 + 64 * s1 + s2 + 4194304) (64 * s3 + s4) M) (m1 : HP 47 (s3) (524335 : Int) M) (m2 : HP 46 (s3) (s5) M) (m3 : HP 270 (131072 * s0 + s4 + 64 * s5 + 5242880) (64 * s6 + s7 + 1048576) M) (hG : gI M) : (HP 271 (131072 * s0 + 64 * s1 + s2 + 4194304) (64 * s6 + s7) M ∧ True) := by
  have hp := px_g (Eq.mp hp_271 m0) 4 s0.toNat s1.toNat s2.toNat s3.toNat s4.toNat (by unfold lix; omega) (by omega) (by omega) (by omega) (by omega) (by omega)
  have k : ltt (tm M) s3.toNat = 6 := by
    unfold ltt
    rw [show tK (tm M) s3.toNat = _ from (q47 m1).2]
    unfold lty
    (repeat' split) <;> omega
  have e : tE (tm M) s3.toNat = s5.toNat := by
    have := (q46 m2).2
    omega
  have h : gVp (tm M) 5 s0.toNat (tE (tm M) s3.toNat) s4.toNat (lkv s6.toNat s7.toNat) := gv_y (gv_g (Eq.mp hp_270 m3) 5 s0.toNat (tE (tm M) s3.toNat) s4.toNat (by unfold lix; omega) (by omega) (by omega) (by omega)) (by unfold lkv; omega)
  exact ⟨Eq.mpr hp_271 (px_p 4 s0.toNat s1.toNat s2.toNat s6.toNat s7.toNat (by unfold lix; omega) (by omega) (by omega) (by omega) (by omega) (by omega) (by omega) (by omega) (gs_n4 (by omega) hp k h)), trivial⟩
theorem rul_269 : Rul r_269 := by
  refine ⟨fun _ ρ M hm hB hF hG => ?_, fun gi gv hg => (by cases hg)⟩
  have H := cr_269 M (ρ 0) (ρ 1) (ρ 2) (ρ 3) (ρ 4) (ρ 5) (ρ 6) (ρ 7) (hB _ List.mem_cons_self) (hB _ (List.mem_cons_of_mem _ List.mem_cons_self)) (hB _ (List.mem_cons_of_mem _ (List.mem_cons_of_mem _ List.mem_cons_self))) (hB _ (List.mem_cons_of_mem _ (List.mem_cons_of_mem _ (List.mem_cons_of_mem _ List.mem_cons_self)))) (hB _ (List.mem_cons_of_mem _ (List.mem_cons_of_mem _ (List.mem_cons_of_mem _ (List.mem_cons_of_mem _ List.mem_cons_self))))) (hB _ (List.mem_cons_of_mem _ (List.mem_cons_of_mem _ (List.mem_cons_of_mem _ (List.mem_cons_of_mem _ (List.mem_cons_of_mem _ List.mem_cons_self)))))) (hB _ (List.mem_cons_of_mem _ (List.mem_cons_of_mem _ (List.mem_cons_of_mem _ (List.mem_cons_of_mem _ (List.mem_cons_of_mem _ (List.mem_cons_of_mem _ List.mem_cons_self))))))) (hB _ (List.mem_cons_of_mem _ (List.mem_cons_of_mem _ (List.mem_cons_of_mem _ (List.mem_cons_of_mem _ (List.mem_cons_of_mem _ (List.mem_cons_of_mem _ (List.mem_cons_of_mem _ List.mem_cons_self)))))))) (cvp 271 (x' := (131072 * (ρ 0) + 64 * (ρ 1) + (ρ 2) + 4194304)) (y' := (64 * (ρ 3) + (ρ 4))) (by show 4194304 + (131072 * ρ 0 + (64 * ρ 1 + (1 * ρ 2 + 0))) = _; omega) (by show 0 + (64 * ρ 3 + (1 * ρ 4 + 0)) = _; omega) (hm _ List.mem_cons_self)) (cvp 47 (x' := ((ρ 3))) (y' := (524335 : Int)) (by show 0 + (1 * ρ 3 + 0) = _; omega) (by show 524335 + 0 = _; omega) (hm _ (List.mem_cons_of_mem _ List.mem_cons_self))) (cvp 46 (x' := ((ρ 3))) (y' := ((ρ 5))) (by show 0 + (1 * ρ 3 + 0) = _; omega) (by show 0 + (1 * ρ 5 + 0) = _; omega) (hm _ (List.mem_cons_of_mem _ (List.mem_cons_of_mem _ List.mem_cons_self)))) (cvp 270 (x' := (131072 * (ρ 0) + (ρ 4) + 64 * (ρ 5) + 5242880)) (y' := (64 * (ρ 6) + (ρ 7) + 1048576)) (by show 5242880 + (131072 * ρ 0 + (1 * ρ 4 + (64 * ρ 5 + 0))) = _; omega) (by show 1048576 + (64 * ρ 6 + (1 * ρ 7 + 0)) = _; omega) (hm _ (List.mem_cons_of_mem _ (List.mem_cons_of_mem _ (List.mem_cons_of_mem _ List.mem_cons_self))))) hG
  obtain ⟨k0, -⟩ := H
  exact ⟨_, List.mem_cons_self, ρ, fun _ _ => rfl, (okM_c (pvp 271 (by show 4194304 + (131072 * ρ 0 + (64 * ρ 1 + (1 * ρ 2 + 0))) = _; omega) (by show 0 + (64 * ρ 6 + (1 * ρ 7 + 0)) = _; omega) k0) okM_n), okB_n, okF_n⟩
-- lsx4_1
theorem cr_270 (M : pM) (s0 s1 s2 s3 s4 s5 s6 : Int) (b0 : 0 ≤ s0 ∧ s0 ≤ 7) (b1 : 0 ≤ s1 ∧ s1 ≤ 1900) (b2 : 0 ≤ s2 ∧ s2 ≤ 60) (b3 : 0 ≤ s3 ∧ s3 ≤ 1900) (b4 : 0 ≤ s4 ∧ s4 ≤ 60) (b5 : 0 ≤ s5 ∧ s5 ≤ 1900) (b6 : 0 ≤ s6 ∧ s6 ≤ 1900) (m0 : HP 271 (131072 * s0 + 64 * s1 + s2 + 4194304) (64 * s3 + s4) M) (m1 : HP 47 (s3) (524335 : Int) M) (m2 : HP 46 (s3) (s5) M) (m3 : HP 270 (131072 * s0 + s4 + 64 * s5 + 5242880) (s6) M) (hG : gI M) : (HP 270 (131072 * s0 + 64 * s1 + s2 + 4194304) (s6) M ∧ True) := by
  have hp := px_g (Eq.mp hp_271 m0) 4 s0.toNat s1.toNat s2.toNat s3.toNat s4.toNat (by unfold lix; omega) (by omega) (by omega) (by omega) (by omega) (by omega)
  have k : ltt (tm M) s3.toNat = 6 := by
    unfold ltt
    rw [show tK (tm M) s3.toNat = _ from (q47 m1).2]
    unfold lty
    (repeat' split) <;> omega
  have e : tE (tm M) s3.toNat = s5.toNat := by
    have := (q46 m2).2
    omega
  have h := gv_g (Eq.mp hp_270 m3) 5 s0.toNat (tE (tm M) s3.toNat) s4.toNat (by unfold lix; omega) (by omega) (by omega) (by omega)
  exact ⟨Eq.mpr hp_270 (gv_p 4 s0.toNat s1.toNat s2.toNat (by unfold lix; omega) (by omega) (by omega) (by omega) (by omega) (gv_y (gs_x4 (by omega) hp k h) (by omega))), trivial⟩
theorem rul_270 : Rul r_270 := by
  refine ⟨fun _ ρ M hm hB hF hG => ?_, fun gi gv hg => (by cases hg)⟩
  have H := cr_270 M (ρ 0) (ρ 1) (ρ 2) (ρ 3) (ρ 4) (ρ 5) (ρ 6) (hB _ List.mem_cons_self) (hB _ (List.mem_cons_of_mem _ List.mem_cons_self)) (hB _ (List.mem_cons_of_mem _ (List.mem_cons_of_mem _ List.mem_cons_self))) (hB _ (List.mem_cons_of_mem _ (List.mem_cons_of_mem _ (List.mem_cons_of_mem _ List.mem_cons_self)))) (hB _ (List.mem_cons_of_mem _ (List.mem_cons_of_mem _ (List.mem_cons_of_mem _ (List.mem_cons_of_mem _ List.mem_cons_self))))) (hB _ (List.mem_cons_of_mem _ (List.mem_cons_of_mem _ (List.mem_cons_of_mem _ (List.mem_cons_of_mem _ (List.mem_cons_of_mem _ List.mem_cons_self)))))) (hB _ (List.mem_cons_of_mem _ (List.mem_cons_of_mem _ (List.mem_cons_of_mem _ (List.mem_cons_of_mem _ (List.mem_cons_of_mem _ (List.mem_cons_of_mem _ List.mem_cons_self))))))) (cvp 271 (x' := (131072 * (ρ 0) + 64 * (ρ 1) + (ρ 2) + 4194304)) (y' := (64 * (ρ 3) + (ρ 4))) (by show 4194304 + (131072 * ρ 0 + (64 * ρ 1 + (1 * ρ 2 + 0))) = _; omega) (by show 0 + (64 * ρ 3 + (1 * ρ 4 + 0)) = _; omega) (hm _ List.mem_cons_self)) (cvp 47 (x' := ((ρ 3))) (y' := (524335 : Int)) (by show 0 + (1 * ρ 3 + 0) = _; omega) (by show 524335 + 0 = _; omega) (hm _ (List.mem_cons_of_mem _ List.mem_cons_self))) (cvp 46 (x' := ((ρ 3))) (y' := ((ρ 5))) (by show 0 + (1 * ρ 3 + 0) = _; omega) (by show 0 + (1 * ρ 5 + 0) = _; omega) (hm _ (List.mem_cons_of_mem _ (List.mem_cons_of_mem _ List.mem_cons_self)))) (cvp 270 (x' := (131072 * (ρ 0) + (ρ 4) + 64 * (ρ 5) + 5242880)) (y' := ((ρ 6))) (by show 5242880 + (131072 * ρ 0 + (1 * ρ 4 + (64 * ρ 5 + 0))) = _; omega) (by show 0 + (1 * ρ 6 + 0) = _; omega) (hm _ (List.mem_cons_of_mem _ (List.mem_cons_of_mem _ (List.mem_cons_of_mem _ List.mem_cons_self))))) hG
  obtain ⟨k0, -⟩ := H
  exact ⟨_, List.mem_cons_self, ρ, fun _ _ => rfl, (okM_c (pvp 270 (by show 4194304 + (131072 * ρ 0 + (64 * ρ 1 + (1 * ρ 2 + 0))) = _; omega) (by show 0 + (1 * ρ 6 + 0) = _; omega) k0) okM_n), okB_n, okF_n⟩
-- lsz4_0
theorem cr_271 (M : pM) (s0 s1 s2 s3 s4 s5 : Int) (b0 : 0 ≤ s0 ∧ s0 ≤ 7) (b1 : 0 ≤ s1 ∧ s1 ≤ 1900) (b2 : 0 ≤ s2 ∧ s2 ≤ 60) (b3 : 0 ≤ s3 ∧ s3 ≤ 1900) (b4 : 0 ≤ s4 ∧ s4 ≤ 60) (b5 : (-1) ≤ s5 ∧ s5 ≤ 600000) (m0 : HP 271 (131072 * s0 + 64 * s1 + s2 + 4194304) (64 * s3 + s4) M) (m1 : HP 47 (s3) (s5) M) (f0 : 0 ≤ ((-1) * s5 + 524329)) (hG : gI M) : (HP 270 (131072 * s0 + 64 * s1 + s2 + 4194304) (64 * s3 + s4 + 1048576) M ∧ True) := by
  have hp := px_g (Eq.mp hp_271 m0) 4 s0.toNat s1.toNat s2.toNat s3.toNat s4.toNat (by unfold lix; omega) (by omega) (by omega) (by omega) (by omega) (by omega)
  have k : ltt (tm M) s3.toNat ≠ 6 := by
    unfold ltt
    rw [show tK (tm M) s3.toNat = _ from (q47 m1).2]
    unfold lty
    (repeat' split) <;> omega
  exact ⟨Eq.mpr hp_270 (gv_p 4 s0.toNat s1.toNat s2.toNat (by unfold lix; omega) (by omega) (by omega) (by omega) (by omega) (gv_y (gs_z4 (by omega) (by omega) hp k) (by unfold lkv; omega))), trivial⟩
theorem rul_271 : Rul r_271 := by
  refine ⟨fun _ ρ M hm hB hF hG => ?_, fun gi gv hg => (by cases hg)⟩
  have H := cr_271 M (ρ 0) (ρ 1) (ρ 2) (ρ 3) (ρ 4) (ρ 5) (hB _ List.mem_cons_self) (hB _ (List.mem_cons_of_mem _ List.mem_cons_self)) (hB _ (List.mem_cons_of_mem _ (List.mem_cons_of_mem _ List.mem_cons_self))) (hB _ (List.mem_cons_of_mem _ (List.mem_cons_of_mem _ (List.mem_cons_of_mem _ List.mem_cons_self)))) (hB _ (List.mem_cons_of_mem _ (List.mem_cons_of_mem _ (List.mem_cons_of_mem _ (List.mem_cons_of_mem _ List.mem_cons_self))))) (hB _ (List.mem_cons_of_mem _ (List.mem_cons_of_mem _ (List.mem_cons_of_mem _ (List.mem_cons_of_mem _ (List.mem_cons_of_mem _ List.mem_cons_self)))))) (cvp 271 (x' := (131072 * (ρ 0) + 64 * (ρ 1) + (ρ 2) + 4194304)) (y' := (64 * (ρ 3) + (ρ 4))) (by show 4194304 + (131072 * ρ 0 + (64 * ρ 1 + (1 * ρ 2 + 0))) = _; omega) (by show 0 + (64 * ρ 3 + (1 * ρ 4 + 0)) = _; omega) (hm _ List.mem_cons_self)) (cvp 47 (x' := ((ρ 3))) (y' := ((ρ 5))) (by show 0 + (1 * ρ 3 + 0) = _; omega) (by show 0 + (1 * ρ 5 + 0) = _; omega) (hm _ (List.mem_cons_of_mem _ List.mem_cons_self))) (by have h := hF _ List.mem_cons_self; have h : 0 ≤ 524329 + ((-1) * ρ 5 + 0) := h; omega) hG
  obtain ⟨k0, -⟩ := H
  exact ⟨_, List.mem_cons_self, ρ, fun _ _ => rfl, (okM_c (pvp 270 (by show 4194304 + (131072 * ρ 0 + (64 * ρ 1 + (1 * ρ 2 + 0))) = _; omega) (by show 1048576 + (64 * ρ 3 + (1 * ρ 4 + 0)) = _; omega) k0) okM_n), okB_n, okF_n⟩
-- lsz4_1
theorem cr_272 (M : pM) (s0 s1 s2 s3 s4 s5 : Int) (b0 : 0 ≤ s0 ∧ s0 ≤ 7) (b1 : 0 ≤ s1 ∧ s1 ≤ 1900) (b2 : 0 ≤ s2 ∧ s2 ≤ 60) (b3 : 0 ≤ s3 ∧ s3 ≤ 1900) (b4 : 0 ≤ s4 ∧ s4 ≤ 60) (b5 : (-1) ≤ s5 ∧ s5 ≤ 600000) (m0 : HP 271 (131072 * s0 + 64 * s1 + s2 + 4194304) (64 * s3 + s4) M) (m1 : HP 47 (s3) (s5) M) (f0 : 0 ≤ (s5 - 524331)) (f1 : 0 ≤ ((-1) * s5 + 524334)) (hG : gI M) : (HP 270 (131072 * s0 + 64 * s1 + s2 + 4194304) (64 * s3 + s4 + 1048576) M ∧ True) := by
  have hp := px_g (Eq.mp hp_271 m0) 4 s0.toNat s1.toNat s2.toNat s3.toNat s4.toNat (by unfold lix; omega) (by omega) (by omega) (by omega) (by omega) (by omega)
  have k : ltt (tm M) s3.toNat ≠ 6 := by
    unfold ltt
    rw [show tK (tm M) s3.toNat = _ from (q47 m1).2]
    unfold lty
    (repeat' split) <;> omega
  exact ⟨Eq.mpr hp_270 (gv_p 4 s0.toNat s1.toNat s2.toNat (by unfold lix; omega) (by omega) (by omega) (by omega) (by omega) (gv_y (gs_z4 (by omega) (by omega) hp k) (by unfold lkv; omega))), trivial⟩
theorem rul_272 : Rul r_272 := by
  refine ⟨fun _ ρ M hm hB hF hG => ?_, fun gi gv hg => (by cases hg)⟩
  have H := cr_272 M (ρ 0) (ρ 1) (ρ 2) (ρ 3) (ρ 4) (ρ 5) (hB _ List.mem_cons_self) (hB _ (List.mem_cons_of_mem _ List.mem_cons_self)) (hB _ (List.mem_cons_of_mem _ (List.mem_cons_of_mem _ List.mem_cons_self))) (hB _ (List.mem_cons_of_mem _ (List.mem_cons_of_mem _ (List.mem_cons_of_mem _ List.mem_cons_self)))) (hB _ (List.mem_cons_of_mem _ (List.mem_cons_of_mem _ (List.mem_cons_of_mem _ (List.mem_cons_of_mem _ List.mem_cons_self))))) (hB _ (List.mem_cons_of_mem _ (List.mem_cons_of_mem _ (List.mem_cons_of_mem _ (List.mem_cons_of_mem _ (List.mem_cons_of_mem _ List.mem_cons_self)))))) (cvp 271 (x' := (131072 * (ρ 0) + 64 * (ρ 1) + (ρ 2) + 4194304)) (y' := (64 * (ρ 3) + (ρ 4))) (by show 4194304 + (131072 * ρ 0 + (64 * ρ 1 + (1 * ρ 2 + 0))) = _; omega) (by show 0 + (64 * ρ 3 + (1 * ρ 4 + 0)) = _; omega) (hm _ List.mem_cons_self)) (cvp 47 (x' := ((ρ 3))) (y' := ((ρ 5))) (by show 0 + (1 * ρ 3 + 0) = _; omega) (by show 0 + (1 * ρ 5 + 0) = _; omega) (hm _ (List.mem_cons_of_mem _ List.mem_cons_self))) (by have h := hF _ List.mem_cons_self; have h : 0 ≤ (-524331) + (1 * ρ 5 + 0) := h; omega) (by have h := hF _ (List.mem_cons_of_mem _ List.mem_cons_self); have h : 0 ≤ 524334 + ((-1) * ρ 5 + 0) := h; omega) hG
  obtain ⟨k0, -⟩ := H
  exact ⟨_, List.mem_cons_self, ρ, fun _ _ => rfl, (okM_c (pvp 270 (by show 4194304 + (131072 * ρ 0 + (64 * ρ 1 + (1 * ρ 2 + 0))) = _; omega) (by show 1048576 + (64 * ρ 3 + (1 * ρ 4 + 0)) = _; omega) k0) okM_n), okB_n, okF_n⟩
-- lsz4_2
theorem cr_273 (M : pM) (s0 s1 s2 s3 s4 s5 : Int) (b0 : 0 ≤ s0 ∧ s0 ≤ 7) (b1 : 0 ≤ s1 ∧ s1 ≤ 1900) (b2 : 0 ≤ s2 ∧ s2 ≤ 60) (b3 : 0 ≤ s3 ∧ s3 ≤ 1900) (b4 : 0 ≤ s4 ∧ s4 ≤ 60) (b5 : (-1) ≤ s5 ∧ s5 ≤ 600000) (m0 : HP 271 (131072 * s0 + 64 * s1 + s2 + 4194304) (64 * s3 + s4) M) (m1 : HP 47 (s3) (s5) M) (f0 : 0 ≤ (s5 - 524336)) (hG : gI M) : (HP 270 (131072 * s0 + 64 * s1 + s2 + 4194304) (64 * s3 + s4 + 1048576) M ∧ True) := by
  have hp := px_g (Eq.mp hp_271 m0) 4 s0.toNat s1.toNat s2.toNat s3.toNat s4.toNat (by unfold lix; omega) (by omega) (by omega) (by omega) (by omega) (by omega)
  have k : ltt (tm M) s3.toNat ≠ 6 := by
    unfold ltt
    rw [show tK (tm M) s3.toNat = _ from (q47 m1).2]
    unfold lty
    (repeat' split) <;> omega
  exact ⟨Eq.mpr hp_270 (gv_p 4 s0.toNat s1.toNat s2.toNat (by unfold lix; omega) (by omega) (by omega) (by omega) (by omega) (gv_y (gs_z4 (by omega) (by omega) hp k) (by unfold lkv; omega))), trivial⟩
theorem rul_273 : Rul r_273 := by
  refine ⟨fun _ ρ M hm hB hF hG => ?_, fun gi gv hg => (by cases hg)⟩
  have H := cr_273 M (ρ 0) (ρ 1) (ρ 2) (ρ 3) (ρ 4) (ρ 5) (hB _ List.mem_cons_self) (hB _ (List.mem_cons_of_mem _ List.mem_cons_self)) (hB _ (List.mem_cons_of_mem _ (List.mem_cons_of_mem _ List.mem_cons_self))) (hB _ (List.mem_cons_of_mem _ (List.mem_cons_of_mem _ (List.mem_cons_of_mem _ List.mem_cons_self)))) (hB _ (List.mem_cons_of_mem _ (List.mem_cons_of_mem _ (List.mem_cons_of_mem _ (List.mem_cons_of_mem _ List.mem_cons_self))))) (hB _ (List.mem_cons_of_mem _ (List.mem_cons_of_mem _ (List.mem_cons_of_mem _ (List.mem_cons_of_mem _ (List.mem_cons_of_mem _ List.mem_cons_self)))))) (cvp 271 (x' := (131072 * (ρ 0) + 64 * (ρ 1) + (ρ 2) + 4194304)) (y' := (64 * (ρ 3) + (ρ 4))) (by show 4194304 + (131072 * ρ 0 + (64 * ρ 1 + (1 * ρ 2 + 0))) = _; omega) (by show 0 + (64 * ρ 3 + (1 * ρ 4 + 0)) = _; omega) (hm _ List.mem_cons_self)) (cvp 47 (x' := ((ρ 3))) (y' := ((ρ 5))) (by show 0 + (1 * ρ 3 + 0) = _; omega) (by show 0 + (1 * ρ 5 + 0) = _; omega) (hm _ (List.mem_cons_of_mem _ List.mem_cons_self))) (by have h := hF _ List.mem_cons_self; have h : 0 ≤ (-524336) + (1 * ρ 5 + 0) := h; omega) hG
  obtain ⟨k0, -⟩ := H
  exact ⟨_, List.mem_cons_self, ρ, fun _ _ => rfl, (okM_c (pvp 270 (by show 4194304 + (131072 * ρ 0 + (64 * ρ 1 + (1 * ρ 2 + 0))) = _; omega) (by show 1048576 + (64 * ρ 3 + (1 * ρ 4 + 0)) = _; omega) k0) okM_n), okB_n, okF_n⟩
-- lst3
theorem cr_274 (M : pM) (s0 s1 s2 s3 s4 : Int) (b0 : 0 ≤ s0 ∧ s0 ≤ 7) (b1 : 0 ≤ s1 ∧ s1 ≤ 1900) (b2 : 0 ≤ s2 ∧ s2 ≤ 60) (b3 : 0 ≤ s3 ∧ s3 ≤ 1900) (b4 : 0 ≤ s4 ∧ s4 ≤ 60) (m0 : HP 270 (131072 * s0 + 64 * s1 + s2 + 4194304) (64 * s3 + s4 + 1048576) M) (hG : gI M) : (HP 271 (131072 * s0 + 64 * s1 + s2 + 3145728) (64 * s3 + s4) M ∧ True) := by
  have h : gVp (tm M) 4 s0.toNat s1.toNat s2.toNat (lkv s3.toNat s4.toNat) := gv_y (gv_g (Eq.mp hp_270 m0) 4 s0.toNat s1.toNat s2.toNat (by unfold lix; omega) (by omega) (by omega) (by omega)) (by unfold lkv; omega)
  exact ⟨Eq.mpr hp_271 (px_p 3 s0.toNat s1.toNat s2.toNat s3.toNat s4.toNat (by unfold lix; omega) (by omega) (by omega) (by omega) (by omega) (by omega) (by omega) (by omega) (gs_t3 (by omega) h)), trivial⟩
theorem rul_274 : Rul r_274 := by
  refine ⟨fun _ ρ M hm hB hF hG => ?_, fun gi gv hg => (by cases hg)⟩
  have H := cr_274 M (ρ 0) (ρ 1) (ρ 2) (ρ 3) (ρ 4) (hB _ List.mem_cons_self) (hB _ (List.mem_cons_of_mem _ List.mem_cons_self)) (hB _ (List.mem_cons_of_mem _ (List.mem_cons_of_mem _ List.mem_cons_self))) (hB _ (List.mem_cons_of_mem _ (List.mem_cons_of_mem _ (List.mem_cons_of_mem _ List.mem_cons_self)))) (hB _ (List.mem_cons_of_mem _ (List.mem_cons_of_mem _ (List.mem_cons_of_mem _ (List.mem_cons_of_mem _ List.mem_cons_self))))) (cvp 270 (x' := (131072 * (ρ 0) + 64 * (ρ 1) + (ρ 2) + 4194304)) (y' := (64 * (ρ 3) + (ρ 4) + 1048576)) (by show 4194304 + (131072 * ρ 0 + (64 * ρ 1 + (1 * ρ 2 + 0))) = _; omega) (by show 1048576 + (64 * ρ 3 + (1 * ρ 4 + 0)) = _; omega) (hm _ List.mem_cons_self)) hG
  obtain ⟨k0, -⟩ := H
  exact ⟨_, List.mem_cons_self, ρ, fun _ _ => rfl, (okM_c (pvp 271 (by show 3145728 + (131072 * ρ 0 + (64 * ρ 1 + (1 * ρ 2 + 0))) = _; omega) (by show 0 + (64 * ρ 3 + (1 * ρ 4 + 0)) = _; omega) k0) okM_n), okB_n, okF_n⟩
-- lse3
theorem cr_275 (M : pM) (s0 s1 s2 s3 : Int) (b0 : 0 ≤ s0 ∧ s0 ≤ 7) (b1 : 0 ≤ s1 ∧ s1 ≤ 1900) (b2 : 0 ≤ s2 ∧ s2 ≤ 60) (b3 : 0 ≤ s3 ∧ s3 ≤ 1900) (m0 : HP 270 (131072 * s0 + 64 * s1 + s2 + 4194304) (s3) M) (hG : gI M) : (HP 270 (131072 * s0 + 64 * s1 + s2 + 3145728) (s3) M ∧ True) := by
  have h := gv_g (Eq.mp hp_270 m0) 4 s0.toNat s1.toNat s2.toNat (by unfold lix; omega) (by omega) (by omega) (by omega)
  exact ⟨Eq.mpr hp_270 (gv_p 3 s0.toNat s1.toNat s2.toNat (by unfold lix; omega) (by omega) (by omega) (by omega) (by omega) (gv_y (gs_e3 (by omega) h) (by omega))), trivial⟩
theorem rul_275 : Rul r_275 := by
  refine ⟨fun _ ρ M hm hB hF hG => ?_, fun gi gv hg => (by cases hg)⟩
  have H := cr_275 M (ρ 0) (ρ 1) (ρ 2) (ρ 3) (hB _ List.mem_cons_self) (hB _ (List.mem_cons_of_mem _ List.mem_cons_self)) (hB _ (List.mem_cons_of_mem _ (List.mem_cons_of_mem _ List.mem_cons_self))) (hB _ (List.mem_cons_of_mem _ (List.mem_cons_of_mem _ (List.mem_cons_of_mem _ List.mem_cons_self)))) (cvp 270 (x' := (131072 * (ρ 0) + 64 * (ρ 1) + (ρ 2) + 4194304)) (y' := ((ρ 3))) (by show 4194304 + (131072 * ρ 0 + (64 * ρ 1 + (1 * ρ 2 + 0))) = _; omega) (by show 0 + (1 * ρ 3 + 0) = _; omega) (hm _ List.mem_cons_self)) hG
  obtain ⟨k0, -⟩ := H
  exact ⟨_, List.mem_cons_self, ρ, fun _ _ => rfl, (okM_c (pvp 270 (by show 3145728 + (131072 * ρ 0 + (64 * ρ 1 + (1 * ρ 2 + 0))) = _; omega) (by show 0 + (1 * ρ 3 + 0) = _; omega) k0) okM_n), okB_n, okF_n⟩
-- lsn3_0
theorem cr_276 (M : pM) (s0 s1 s2 s3 s4 s5 s6 s7 : Int) (b0 : 0 ≤ s0 ∧ s0 ≤ 7) (b1 : 0 ≤ s1 ∧ s1 ≤ 1900) (b2 : 0 ≤ s2 ∧ s2 ≤ 60) (b3 : 0 ≤ s3 ∧ s3 ≤ 1900) (b4 : 0 ≤ s4 ∧ s4 ≤ 60) (b5 : 0 ≤ s5 ∧ s5 ≤ 1900) (b6 : 0 ≤ s6 ∧ s6 ≤ 1900) (b7 : 0 ≤ s7 ∧ s7 ≤ 60) (m0 : HP 271 (131072 * s0 + 64 * s1 + s2 + 3145728) (64 * s3 + s4) M) (m1 : HP 47 (s3) (524331 : Int) M) (m2 : HP 46 (s3) (s5) M) (m3 : HP 270 (131072 * s0 + s4 + 64 * s5 + 4194304) (64 * s6 + s7 + 1048576) M) (hG : gI M) : (HP 271 (131072 * s0 + 64 * s1 + s2 + 3145728) (64 * s6 + s7) M ∧ True) := by
  have hp := px_g (Eq.mp hp_271 m0) 3 s0.toNat s1.toNat s2.toNat s3.toNat s4.toNat (by unfold lix; omega) (by omega) (by omega) (by omega) (by omega) (by omega)
  have k : ltt (tm M) s3.toNat = 5 := by
    unfold ltt
    rw [show tK (tm M) s3.toNat = _ from (q47 m1).2]
    unfold lty
    (repeat' split) <;> omega
  have e : tE (tm M) s3.toNat = s5.toNat := by
    have := (q46 m2).2
    omega
  have h : gVp (tm M) 4 s0.toNat (tE (tm M) s3.toNat) s4.toNat (lkv s6.toNat s7.toNat) := gv_y (gv_g (Eq.mp hp_270 m3) 4 s0.toNat (tE (tm M) s3.toNat) s4.toNat (by unfold lix; omega) (by omega) (by omega) (by omega)) (by unfold lkv; omega)
  exact ⟨Eq.mpr hp_271 (px_p 3 s0.toNat s1.toNat s2.toNat s6.toNat s7.toNat (by unfold lix; omega) (by omega) (by omega) (by omega) (by omega) (by omega) (by omega) (by omega) (gs_n3 (by omega) hp k h)), trivial⟩
theorem rul_276 : Rul r_276 := by
  refine ⟨fun _ ρ M hm hB hF hG => ?_, fun gi gv hg => (by cases hg)⟩
  have H := cr_276 M (ρ 0) (ρ 1) (ρ 2) (ρ 3) (ρ 4) (ρ 5) (ρ 6) (ρ 7) (hB _ List.mem_cons_self) (hB _ (List.mem_cons_of_mem _ List.mem_cons_self)) (hB _ (List.mem_cons_of_mem _ (List.mem_cons_of_mem _ List.mem_cons_self))) (hB _ (List.mem_cons_of_mem _ (List.mem_cons_of_mem _ (List.mem_cons_of_mem _ List.mem_cons_self)))) (hB _ (List.mem_cons_of_mem _ (List.mem_cons_of_mem _ (List.mem_cons_of_mem _ (List.mem_cons_of_mem _ List.mem_cons_self))))) (hB _ (List.mem_cons_of_mem _ (List.mem_cons_of_mem _ (List.mem_cons_of_mem _ (List.mem_cons_of_mem _ (List.mem_cons_of_mem _ List.mem_cons_self)))))) (hB _ (List.mem_cons_of_mem _ (List.mem_cons_of_mem _ (List.mem_cons_of_mem _ (List.mem_cons_of_mem _ (List.mem_cons_of_mem _ (List.mem_cons_of_mem _ List.mem_cons_self))))))) (hB _ (List.mem_cons_of_mem _ (List.mem_cons_of_mem _ (List.mem_cons_of_mem _ (List.mem_cons_of_mem _ (List.mem_cons_of_mem _ (List.mem_cons_of_mem _ (List.mem_cons_of_mem _ List.mem_cons_self)))))))) (cvp 271 (x' := (131072 * (ρ 0) + 64 * (ρ 1) + (ρ 2) + 3145728)) (y' := (64 * (ρ 3) + (ρ 4))) (by show 3145728 + (131072 * ρ 0 + (64 * ρ 1 + (1 * ρ 2 + 0))) = _; omega) (by show 0 + (64 * ρ 3 + (1 * ρ 4 + 0)) = _; omega) (hm _ List.mem_cons_self)) (cvp 47 (x' := ((ρ 3))) (y' := (524331 : Int)) (by show 0 + (1 * ρ 3 + 0) = _; omega) (by show 524331 + 0 = _; omega) (hm _ (List.mem_cons_of_mem _ List.mem_cons_self))) (cvp 46 (x' := ((ρ 3))) (y' := ((ρ 5))) (by show 0 + (1 * ρ 3 + 0) = _; omega) (by show 0 + (1 * ρ 5 + 0) = _; omega) (hm _ (List.mem_cons_of_mem _ (List.mem_cons_of_mem _ List.mem_cons_self)))) (cvp 270 (x' := (131072 * (ρ 0) + (ρ 4) + 64 * (ρ 5) + 4194304)) (y' := (64 * (ρ 6) + (ρ 7) + 1048576)) (by show 4194304 + (131072 * ρ 0 + (1 * ρ 4 + (64 * ρ 5 + 0))) = _; omega) (by show 1048576 + (64 * ρ 6 + (1 * ρ 7 + 0)) = _; omega) (hm _ (List.mem_cons_of_mem _ (List.mem_cons_of_mem _ (List.mem_cons_of_mem _ List.mem_cons_self))))) hG
  obtain ⟨k0, -⟩ := H
  exact ⟨_, List.mem_cons_self, ρ, fun _ _ => rfl, (okM_c (pvp 271 (by show 3145728 + (131072 * ρ 0 + (64 * ρ 1 + (1 * ρ 2 + 0))) = _; omega) (by show 0 + (64 * ρ 6 + (1 * ρ 7 + 0)) = _; omega) k0) okM_n), okB_n, okF_n⟩
-- lsx3_0
theorem cr_277 (M : pM) (s0 s1 s2 s3 s4 s5 s6 : Int) (b0 : 0 ≤ s0 ∧ s0 ≤ 7) (b1 : 0 ≤ s1 ∧ s1 ≤ 1900) (b2 : 0 ≤ s2 ∧ s2 ≤ 60) (b3 : 0 ≤ s3 ∧ s3 ≤ 1900) (b4 : 0 ≤ s4 ∧ s4 ≤ 60) (b5 : 0 ≤ s5 ∧ s5 ≤ 1900) (b6 : 0 ≤ s6 ∧ s6 ≤ 1900) (m0 : HP 271 (131072 * s0 + 64 * s1 + s2 + 3145728) (64 * s3 + s4) M) (m1 : HP 47 (s3) (524331 : Int) M) (m2 : HP 46 (s3) (s5) M) (m3 : HP 270 (131072 * s0 + s4 + 64 * s5 + 4194304) (s6) M) (hG : gI M) : (HP 270 (131072 * s0 + 64 * s1 + s2 + 3145728) (s6) M ∧ True) := by
  have hp := px_g (Eq.mp hp_271 m0) 3 s0.toNat s1.toNat s2.toNat s3.toNat s4.toNat (by unfold lix; omega) (by omega) (by omega) (by omega) (by omega) (by omega)
  have k : ltt (tm M) s3.toNat = 5 := by
    unfold ltt
    rw [show tK (tm M) s3.toNat = _ from (q47 m1).2]
    unfold lty
    (repeat' split) <;> omega
  have e : tE (tm M) s3.toNat = s5.toNat := by
    have := (q46 m2).2
    omega
  have h := gv_g (Eq.mp hp_270 m3) 4 s0.toNat (tE (tm M) s3.toNat) s4.toNat (by unfold lix; omega) (by omega) (by omega) (by omega)
  exact ⟨Eq.mpr hp_270 (gv_p 3 s0.toNat s1.toNat s2.toNat (by unfold lix; omega) (by omega) (by omega) (by omega) (by omega) (gv_y (gs_x3 (by omega) hp k h) (by omega))), trivial⟩
theorem rul_277 : Rul r_277 := by
  refine ⟨fun _ ρ M hm hB hF hG => ?_, fun gi gv hg => (by cases hg)⟩
  have H := cr_277 M (ρ 0) (ρ 1) (ρ 2) (ρ 3) (ρ 4) (ρ 5) (ρ 6) (hB _ List.mem_cons_self) (hB _ (List.mem_cons_of_mem _ List.mem_cons_self)) (hB _ (List.mem_cons_of_mem _ (List.mem_cons_of_mem _ List.mem_cons_self))) (hB _ (List.mem_cons_of_mem _ (List.mem_cons_of_mem _ (List.mem_cons_of_mem _ List.mem_cons_self)))) (hB _ (List.mem_cons_of_mem _ (List.mem_cons_of_mem _ (List.mem_cons_of_mem _ (List.mem_cons_of_mem _ List.mem_cons_self))))) (hB _ (List.mem_cons_of_mem _ (List.mem_cons_of_mem _ (List.mem_cons_of_mem _ (List.mem_cons_of_mem _ (List.mem_cons_of_mem _ List.mem_cons_self)))))) (hB _ (List.mem_cons_of_mem _ (List.mem_cons_of_mem _ (List.mem_cons_of_mem _ (List.mem_cons_of_mem _ (List.mem_cons_of_mem _ (List.mem_cons_of_mem _ List.mem_cons_self))))))) (cvp 271 (x' := (131072 * (ρ 0) + 64 * (ρ 1) + (ρ 2) + 3145728)) (y' := (64 * (ρ 3) + (ρ 4))) (by show 3145728 + (131072 * ρ 0 + (64 * ρ 1 + (1 * ρ 2 + 0))) = _; omega) (by show 0 + (64 * ρ 3 + (1 * ρ 4 + 0)) = _; omega) (hm _ List.mem_cons_self)) (cvp 47 (x' := ((ρ 3))) (y' := (524331 : Int)) (by show 0 + (1 * ρ 3 + 0) = _; omega) (by show 524331 + 0 = _; omega) (hm _ (List.mem_cons_of_mem _ List.mem_cons_self))) (cvp 46 (x' := ((ρ 3))) (y' := ((ρ 5))) (by show 0 + (1 * ρ 3 + 0) = _; omega) (by show 0 + (1 * ρ 5 + 0) = _; omega) (hm _ (List.mem_cons_of_mem _ (List.mem_cons_of_mem _ List.mem_cons_self)))) (cvp 270 (x' := (131072 * (ρ 0) + (ρ 4) + 64 * (ρ 5) + 4194304)) (y' := ((ρ 6))) (by show 4194304 + (131072 * ρ 0 + (1 * ρ 4 + (64 * ρ 5 + 0))) = _; omega) (by show 0 + (1 * ρ 6 + 0) = _; omega) (hm _ (List.mem_cons_of_mem _ (List.mem_cons_of_mem _ (List.mem_cons_of_mem _ List.mem_cons_self))))) hG
  obtain ⟨k0, -⟩ := H
  exact ⟨_, List.mem_cons_self, ρ, fun _ _ => rfl, (okM_c (pvp 270 (by show 3145728 + (131072 * ρ 0 + (64 * ρ 1 + (1 * ρ 2 + 0))) = _; omega) (by show 0 + (1 * ρ 6 + 0) = _; omega) k0) okM_n), okB_n, okF_n⟩
-- lsn3_1
theorem cr_278 (M : pM) (s0 s1 s2 s3 s4 s5 s6 s7 : Int) (b0 : 0 ≤ s0 ∧ s0 ≤ 7) (b1 : 0 ≤ s1 ∧ s1 ≤ 1900) (b2 : 0 ≤ s2 ∧ s2 ≤ 60) (b3 : 0 ≤ s3 ∧ s3 ≤ 1900) (b4 : 0 ≤ s4 ∧ s4 ≤ 60) (b5 : 0 ≤ s5 ∧ s5 ≤ 1900) (b6 : 0 ≤ s6 ∧ s6 ≤ 1900) (b7 : 0 ≤ s7 ∧ s7 ≤ 60) (m0 : HP 271 (131072 * s0 + 64 * s1 + s2 + 3145728) (64 * s3 + s4) M) (m1 : HP 47 (s3) (524333 : Int) M) (m2 : HP 46 (s3) (s5) M) (m3 : HP 270 (131072 * s0 + s4 + 64 * s5 + 4194304) (64 * s6 + s7 + 1048576) M) (hG : gI M) : (HP 271 (131072 * s0 + 64 * s1 + s2 + 3145728) (64 * s6 + s7) M ∧ True) := by
  have hp := px_g (Eq.mp hp_271 m0) 3 s0.toNat s1.toNat s2.toNat s3.toNat s4.toNat (by unfold lix; omega) (by omega) (by omega) (by omega) (by omega) (by omega)
  have k : ltt (tm M) s3.toNat = 5 := by
    unfold ltt
    rw [show tK (tm M) s3.toNat = _ from (q47 m1).2]
    unfold lty
    (repeat' split) <;> omega
  have e : tE (tm M) s3.toNat = s5.toNat := by
    have := (q46 m2).2
    omega
  have h : gVp (tm M) 4 s0.toNat (tE (tm M) s3.toNat) s4.toNat (lkv s6.toNat s7.toNat) := gv_y (gv_g (Eq.mp hp_270 m3) 4 s0.toNat (tE (tm M) s3.toNat) s4.toNat (by unfold lix; omega) (by omega) (by omega) (by omega)) (by unfold lkv; omega)
  exact ⟨Eq.mpr hp_271 (px_p 3 s0.toNat s1.toNat s2.toNat s6.toNat s7.toNat (by unfold lix; omega) (by omega) (by omega) (by omega) (by omega) (by omega) (by omega) (by omega) (gs_n3 (by omega) hp k h)), trivial⟩
theorem rul_278 : Rul r_278 := by
  refine ⟨fun _ ρ M hm hB hF hG => ?_, fun gi gv hg => (by cases hg)⟩
  have H := cr_278 M (ρ 0) (ρ 1) (ρ 2) (ρ 3) (ρ 4) (ρ 5) (ρ 6) (ρ 7) (hB _ List.mem_cons_self) (hB _ (List.mem_cons_of_mem _ List.mem_cons_self)) (hB _ (List.mem_cons_of_mem _ (List.mem_cons_of_mem _ List.mem_cons_self))) (hB _ (List.mem_cons_of_mem _ (List.mem_cons_of_mem _ (List.mem_cons_of_mem _ List.mem_cons_self)))) (hB _ (List.mem_cons_of_mem _ (List.mem_cons_of_mem _ (List.mem_cons_of_mem _ (List.mem_cons_of_mem _ List.mem_cons_self))))) (hB _ (List.mem_cons_of_mem _ (List.mem_cons_of_mem _ (List.mem_cons_of_mem _ (List.mem_cons_of_mem _ (List.mem_cons_of_mem _ List.mem_cons_self)))))) (hB _ (List.mem_cons_of_mem _ (List.mem_cons_of_mem _ (List.mem_cons_of_mem _ (List.mem_cons_of_mem _ (List.mem_cons_of_mem _ (List.mem_cons_of_mem _ List.mem_cons_self))))))) (hB _ (List.mem_cons_of_mem _ (List.mem_cons_of_mem _ (List.mem_cons_of_mem _ (List.mem_cons_of_mem _ (List.mem_cons_of_mem _ (List.mem_cons_of_mem _ (List.mem_cons_of_mem _ List.mem_cons_self)))))))) (cvp 271 (x' := (131072 * (ρ 0) + 64 * (ρ 1) + (ρ 2) + 3145728)) (y' := (64 * (ρ 3) + (ρ 4))) (by show 3145728 + (131072 * ρ 0 + (64 * ρ 1 + (1 * ρ 2 + 0))) = _; omega) (by show 0 + (64 * ρ 3 + (1 * ρ 4 + 0)) = _; omega) (hm _ List.mem_cons_self)) (cvp 47 (x' := ((ρ 3))) (y' := (524333 : Int)) (by show 0 + (1 * ρ 3 + 0) = _; omega) (by show 524333 + 0 = _; omega) (hm _ (List.mem_cons_of_mem _ List.mem_cons_self))) (cvp 46 (x' := ((ρ 3))) (y' := ((ρ 5))) (by show 0 + (1 * ρ 3 + 0) = _; omega) (by show 0 + (1 * ρ 5 + 0) = _; omega) (hm _ (List.mem_cons_of_mem _ (List.mem_cons_of_mem _ List.mem_cons_self)))) (cvp 270 (x' := (131072 * (ρ 0) + (ρ 4) + 64 * (ρ 5) + 4194304)) (y' := (64 * (ρ 6) + (ρ 7) + 1048576)) (by show 4194304 + (131072 * ρ 0 + (1 * ρ 4 + (64 * ρ 5 + 0))) = _; omega) (by show 1048576 + (64 * ρ 6 + (1 * ρ 7 + 0)) = _; omega) (hm _ (List.mem_cons_of_mem _ (List.mem_cons_of_mem _ (List.mem_cons_of_mem _ List.mem_cons_self))))) hG
  obtain ⟨k0, -⟩ := H
  exact ⟨_, List.mem_cons_self, ρ, fun _ _ => rfl, (okM_c (pvp 271 (by show 3145728 + (131072 * ρ 0 + (64 * ρ 1 + (1 * ρ 2 + 0))) = _; omega) (by show 0 + (64 * ρ 6 + (1 * ρ 7 + 0)) = _; omega) k0) okM_n), okB_n, okF_n⟩
-- lsx3_1
theorem cr_279 (M : pM) (s0 s1 s2 s3 s4 s5 s6 : Int) (b0 : 0 ≤ s0 ∧ s0 ≤ 7) (b1 : 0 ≤ s1 ∧ s1 ≤ 1900) (b2 : 0 ≤ s2 ∧ s2 ≤ 60) (b3 : 0 ≤ s3 ∧ s3 ≤ 1900) (b4 : 0 ≤ s4 ∧ s4 ≤ 60) (b5 : 0 ≤ s5 ∧ s5 ≤ 1900) (b6 : 0 ≤ s6 ∧ s6 ≤ 1900) (m0 : HP 271 (131072 * s0 + 64 * s1 + s2 + 3145728) (64 * s3 + s4) M) (m1 : HP 47 (s3) (524333 : Int) M) (m2 : HP 46 (s3) (s5) M) (m3 : HP 270 (131072 * s0 + s4 + 64 * s5 + 4194304) (s6) M) (hG : gI M) : (HP 270 (131072 * s0 + 64 * s1 + s2 + 3145728) (s6) M ∧ True) := by
  have hp := px_g (Eq.mp hp_271 m0) 3 s0.toNat s1.toNat s2.toNat s3.toNat s4.toNat (by unfold lix; omega) (by omega) (by omega) (by omega) (by omega) (by omega)
  have k : ltt (tm M) s3.toNat = 5 := by
    unfold ltt
    rw [show tK (tm M) s3.toNat = _ from (q47 m1).2]
    unfold lty
    (repeat' split) <;> omega
  have e : tE (tm M) s3.toNat = s5.toNat := by
    have := (q46 m2).2
    omega
  have h := gv_g (Eq.mp hp_270 m3) 4 s0.toNat (tE (tm M) s3.toNat) s4.toNat (by unfold lix; omega) (by omega) (by omega) (by omega)
  exact ⟨Eq.mpr hp_270 (gv_p 3 s0.toNat s1.toNat s2.toNat (by unfold lix; omega) (by omega) (by omega) (by omega) (by omega) (gv_y (gs_x3 (by omega) hp k h) (by omega))), trivial⟩
theorem rul_279 : Rul r_279 := by
  refine ⟨fun _ ρ M hm hB hF hG => ?_, fun gi gv hg => (by cases hg)⟩
  have H := cr_279 M (ρ 0) (ρ 1) (ρ 2) (ρ 3) (ρ 4) (ρ 5) (ρ 6) (hB _ List.mem_cons_self) (hB _ (List.mem_cons_of_mem _ List.mem_cons_self)) (hB _ (List.mem_cons_of_mem _ (List.mem_cons_of_mem _ List.mem_cons_self))) (hB _ (List.mem_cons_of_mem _ (List.mem_cons_of_mem _ (List.mem_cons_of_mem _ List.mem_cons_self)))) (hB _ (List.mem_cons_of_mem _ (List.mem_cons_of_mem _ (List.mem_cons_of_mem _ (List.mem_cons_of_mem _ List.mem_cons_self))))) (hB _ (List.mem_cons_of_mem _ (List.mem_cons_of_mem _ (List.mem_cons_of_mem _ (List.mem_cons_of_mem _ (List.mem_cons_of_mem _ List.mem_cons_self)))))) (hB _ (List.mem_cons_of_mem _ (List.mem_cons_of_mem _ (List.mem_cons_of_mem _ (List.mem_cons_of_mem _ (List.mem_cons_of_mem _ (List.mem_cons_of_mem _ List.mem_cons_self))))))) (cvp 271 (x' := (131072 * (ρ 0) + 64 * (ρ 1) + (ρ 2) + 3145728)) (y' := (64 * (ρ 3) + (ρ 4))) (by show 3145728 + (131072 * ρ 0 + (64 * ρ 1 + (1 * ρ 2 + 0))) = _; omega) (by show 0 + (64 * ρ 3 + (1 * ρ 4 + 0)) = _; omega) (hm _ List.mem_cons_self)) (cvp 47 (x' := ((ρ 3))) (y' := (524333 : Int)) (by show 0 + (1 * ρ 3 + 0) = _; omega) (by show 524333 + 0 = _; omega) (hm _ (List.mem_cons_of_mem _ List.mem_cons_self))) (cvp 46 (x' := ((ρ 3))) (y' := ((ρ 5))) (by show 0 + (1 * ρ 3 + 0) = _; omega) (by show 0 + (1 * ρ 5 + 0) = _; omega) (hm _ (List.mem_cons_of_mem _ (List.mem_cons_of_mem _ List.mem_cons_self)))) (cvp 270 (x' := (131072 * (ρ 0) + (ρ 4) + 64 * (ρ 5) + 4194304)) (y' := ((ρ 6))) (by show 4194304 + (131072 * ρ 0 + (1 * ρ 4 + (64 * ρ 5 + 0))) = _; omega) (by show 0 + (1 * ρ 6 + 0) = _; omega) (hm _ (List.mem_cons_of_mem _ (List.mem_cons_of_mem _ (List.mem_cons_of_mem _ List.mem_cons_self))))) hG
  obtain ⟨k0, -⟩ := H
  exact ⟨_, List.mem_cons_self, ρ, fun _ _ => rfl, (okM_c (pvp 270 (by show 3145728 + (131072 * ρ 0 + (64 * ρ 1 + (1 * ρ 2 + 0))) = _; omega) (by show 0 + (1 * ρ 6 + 0) = _; omega) k0) okM_n), okB_n, okF_n⟩
-- lsz3_0
theorem cr_280 (M : pM) (s0 s1 s2 s3 s4 s5 : Int) (b0 : 0 ≤ s0 ∧ s0 ≤ 7) (b1 : 0 ≤ s1 ∧ s1 ≤ 1900) (b2 : 0 ≤ s2 ∧ s2 ≤ 60) (b3 : 0 ≤ s3 ∧ s3 ≤ 1900) (b4 : 0 ≤ s4 ∧ s4 ≤ 60) (b5 : (-1) ≤ s5 ∧ s5 ≤ 600000) (m0 : HP 271 (131072 * s0 + 64 * s1 + s2 + 3145728) (64 * s3 + s4) M) (m1 : HP 47 (s3) (s5) M) (f0 : 0 ≤ ((-1) * s5 + 524330)) (hG : gI M) : (HP 270 (131072 * s0 + 64 * s1 + s2 + 3145728) (64 * s3 + s4 + 1048576) M ∧ True) := by
  have hp := px_g (Eq.mp hp_271 m0) 3 s0.toNat s1.toNat s2.toNat s3.toNat s4.toNat (by unfold lix; omega) (by omega) (by omega) (by omega) (by omega) (by omega)
  have k : ltt (tm M) s3.toNat ≠ 5 := by
    unfold ltt
    rw [show tK (tm M) s3.toNat = _ from (q47 m1).2]
    unfold lty
    (repeat' split) <;> omega
  exact ⟨Eq.mpr hp_270 (gv_p 3 s0.toNat s1.toNat s2.toNat (by unfold lix; omega) (by omega) (by omega) (by omega) (by omega) (gv_y (gs_z3 (by omega) (by omega) hp k) (by unfold lkv; omega))), trivial⟩
theorem rul_280 : Rul r_280 := by
  refine ⟨fun _ ρ M hm hB hF hG => ?_, fun gi gv hg => (by cases hg)⟩
  have H := cr_280 M (ρ 0) (ρ 1) (ρ 2) (ρ 3) (ρ 4) (ρ 5) (hB _ List.mem_cons_self) (hB _ (List.mem_cons_of_mem _ List.mem_cons_self)) (hB _ (List.mem_cons_of_mem _ (List.mem_cons_of_mem _ List.mem_cons_self))) (hB _ (List.mem_cons_of_mem _ (List.mem_cons_of_mem _ (List.mem_cons_of_mem _ List.mem_cons_self)))) (hB _ (List.mem_cons_of_mem _ (List.mem_cons_of_mem _ (List.mem_cons_of_mem _ (List.mem_cons_of_mem _ List.mem_cons_self))))) (hB _ (List.mem_cons_of_mem _ (List.mem_cons_of_mem _ (List.mem_cons_of_mem _ (List.mem_cons_of_mem _ (List.mem_cons_of_mem _ List.mem_cons_self)))))) (cvp 271 (x' := (131072 * (ρ 0) + 64 * (ρ 1) + (ρ 2) + 3145728)) (y' := (64 * (ρ 3) + (ρ 4))) (by show 3145728 + (131072 * ρ 0 + (64 * ρ 1 + (1 * ρ 2 + 0))) = _; omega) (by show 0 + (64 * ρ 3 + (1 * ρ 4 + 0)) = _; omega) (hm _ List.mem_cons_self)) (cvp 47 (x' := ((ρ 3))) (y' := ((ρ 5))) (by show 0 + (1 * ρ 3 + 0) = _; omega) (by show 0 + (1 * ρ 5 + 0) = _; omega) (hm _ (List.mem_cons_of_mem _ List.mem_cons_self))) (by have h := hF _ List.mem_cons_self; have h : 0 ≤ 524330 + ((-1) * ρ 5 + 0) := h; omega) hG
  obtain ⟨k0, -⟩ := H
  exact ⟨_, List.mem_cons_self, ρ, fun _ _ => rfl, (okM_c (pvp 270 (by show 3145728 + (131072 * ρ 0 + (64 * ρ 1 + (1 * ρ 2 + 0))) = _; omega) (by show 1048576 + (64 * ρ 3 + (1 * ρ 4 + 0)) = _; omega) k0) okM_n), okB_n, okF_n⟩
-- lsz3_1
theorem cr_281 (M : pM) (s0 s1 s2 s3 s4 s5 : Int) (b0 : 0 ≤ s0 ∧ s0 ≤ 7) (b1 : 0 ≤ s1 ∧ s1 ≤ 1900) (b2 : 0 ≤ s2 ∧ s2 ≤ 60) (b3 : 0 ≤ s3 ∧ s3 ≤ 1900) (b4 : 0 ≤ s4 ∧ s4 ≤ 60) (b5 : (-1) ≤ s5 ∧ s5 ≤ 600000) (m0 : HP 271 (131072 * s0 + 64 * s1 + s2 + 3145728) (64 * s3 + s4) M) (m1 : HP 47 (s3) (s5) M) (f0 : 0 ≤ (s5 - 524332)) (f1 : 0 ≤ ((-1) * s5 + 524332)) (hG : gI M) : (HP 270 (131072 * s0 + 64 * s1 + s2 + 3145728) (64 * s3 + s4 + 1048576) M ∧ True) := by
  have hp := px_g (Eq.mp hp_271 m0) 3 s0.toNat s1.toNat s2.toNat s3.toNat s4.toNat (by unfold lix; omega) (by omega) (by omega) (by omega) (by omega) (by omega)
  have k : ltt (tm M) s3.toNat ≠ 5 := by
    unfold ltt
    rw [show tK (tm M) s3.toNat = _ from (q47 m1).2]
    unfold lty
    (repeat' split) <;> omega
  exact ⟨Eq.mpr hp_270 (gv_p 3 s0.toNat s1.toNat s2.toNat (by unfold lix; omega) (by omega) (by omega) (by omega) (by omega) (gv_y (gs_z3 (by omega) (by omega) hp k) (by unfold lkv; omega))), trivial⟩
theorem rul_281 : Rul r_281 := by
  refine ⟨fun _ ρ M hm hB hF hG => ?_, fun gi gv hg => (by cases hg)⟩
  have H := cr_281 M (ρ 0) (ρ 1) (ρ 2) (ρ 3) (ρ 4) (ρ 5) (hB _ List.mem_cons_self) (hB _ (List.mem_cons_of_mem _ List.mem_cons_self)) (hB _ (List.mem_cons_of_mem _ (List.mem_cons_of_mem _ List.mem_cons_self))) (hB _ (List.mem_cons_of_mem _ (List.mem_cons_of_mem _ (List.mem_cons_of_mem _ List.mem_cons_self)))) (hB _ (List.mem_cons_of_mem _ (List.mem_cons_of_mem _ (List.mem_cons_of_mem _ (List.mem_cons_of_mem _ List.mem_cons_self))))) (hB _ (List.mem_cons_of_mem _ (List.mem_cons_of_mem _ (List.mem_cons_of_mem _ (List.mem_cons_of_mem _ (List.mem_cons_of_mem _ List.mem_cons_self)))))) (cvp 271 (x' := (131072 * (ρ 0) + 64 * (ρ 1) + (ρ 2) + 3145728)) (y' := (64 * (ρ 3) + (ρ 4))) (by show 3145728 + (131072 * ρ 0 + (64 * ρ 1 + (1 * ρ 2 + 0))) = _; omega) (by show 0 + (64 * ρ 3 + (1 * ρ 4 + 0)) = _; omega) (hm _ List.mem_cons_self)) (cvp 47 (x' := ((ρ 3))) (y' := ((ρ 5))) (by show 0 + (1 * ρ 3 + 0) = _; omega) (by show 0 + (1 * ρ 5 + 0) = _; omega) (hm _ (List.mem_cons_of_mem _ List.mem_cons_self))) (by have h := hF _ List.mem_cons_self; have h : 0 ≤ (-524332) + (1 * ρ 5 + 0) := h; omega) (by have h := hF _ (List.mem_cons_of_mem _ List.mem_cons_self); have h : 0 ≤ 524332 + ((-1) * ρ 5 + 0) := h; omega) hG
  obtain ⟨k0, -⟩ := H
  exact ⟨_, List.mem_cons_self, ρ, fun _ _ => rfl, (okM_c (pvp 270 (by show 3145728 + (131072 * ρ 0 + (64 * ρ 1 + (1 * ρ 2 + 0))) = _; omega) (by show 1048576 + (64 * ρ 3 + (1 * ρ 4 + 0)) = _; omega) k0) okM_n), okB_n, okF_n⟩
-- lsz3_2
theorem cr_282 (M : pM) (s0 s1 s2 s3 s4 s5 : Int) (b0 : 0 ≤ s0 ∧ s0 ≤ 7) (b1 : 0 ≤ s1 ∧ s1 ≤ 1900) (b2 : 0 ≤ s2 ∧ s2 ≤ 60) (b3 : 0 ≤ s3 ∧ s3 ≤ 1900) (b4 : 0 ≤ s4 ∧ s4 ≤ 60) (b5 : (-1) ≤ s5 ∧ s5 ≤ 600000) (m0 : HP 271 (131072 * s0 + 64 * s1 + s2 + 3145728) (64 * s3 + s4) M) (m1 : HP 47 (s3) (s5) M) (f0 : 0 ≤ (s5 - 524334)) (hG : gI M) : (HP 270 (131072 * s0 + 64 * s1 + s2 + 3145728) (64 * s3 + s4 + 1048576) M ∧ True) := by
  have hp := px_g (Eq.mp hp_271 m0) 3 s0.toNat s1.toNat s2.toNat s3.toNat s4.toNat (by unfold lix; omega) (by omega) (by omega) (by omega) (by omega) (by omega)
  have k : ltt (tm M) s3.toNat ≠ 5 := by
    unfold ltt
    rw [show tK (tm M) s3.toNat = _ from (q47 m1).2]
    unfold lty
    (repeat' split) <;> omega
  exact ⟨Eq.mpr hp_270 (gv_p 3 s0.toNat s1.toNat s2.toNat (by unfold lix; omega) (by omega) (by omega) (by omega) (by omega) (gv_y (gs_z3 (by omega) (by omega) hp k) (by unfold lkv; omega))), trivial⟩
theorem rul_282 : Rul r_282 := by
  refine ⟨fun _ ρ M hm hB hF hG => ?_, fun gi gv hg => (by cases hg)⟩
  have H := cr_282 M (ρ 0) (ρ 1) (ρ 2) (ρ 3) (ρ 4) (ρ 5) (hB _ List.mem_cons_self) (hB _ (List.mem_cons_of_mem _ List.mem_cons_self)) (hB _ (List.mem_cons_of_mem _ (List.mem_cons_of_mem _ List.mem_cons_self))) (hB _ (List.mem_cons_of_mem _ (List.mem_cons_of_mem _ (List.mem_cons_of_mem _ List.mem_cons_self)))) (hB _ (List.mem_cons_of_mem _ (List.mem_cons_of_mem _ (List.mem_cons_of_mem _ (List.mem_cons_of_mem _ List.mem_cons_self))))) (hB _ (List.mem_cons_of_mem _ (List.mem_cons_of_mem _ (List.mem_cons_of_mem _ (List.mem_cons_of_mem _ (List.mem_cons_of_mem _ List.mem_cons_self)))))) (cvp 271 (x' := (131072 * (ρ 0) + 64 * (ρ 1) + (ρ 2) + 3145728)) (y' := (64 * (ρ 3) + (ρ 4))) (by show 3145728 + (131072 * ρ 0 + (64 * ρ 1 + (1 * ρ 2 + 0))) = _; omega) (by show 0 + (64 * ρ 3 + (1 * ρ 4 + 0)) = _; omega) (hm _ List.mem_cons_self)) (cvp 47 (x' := ((ρ 3))) (y' := ((ρ 5))) (by show 0 + (1 * ρ 3 + 0) = _; omega) (by show 0 + (1 * ρ 5 + 0) = _; omega) (hm _ (List.mem_cons_of_mem _ List.mem_cons_self))) (by have h := hF _ List.mem_cons_self; have h : 0 ≤ (-524334) + (1 * ρ 5 + 0) := h; omega) hG
  obtain ⟨k0, -⟩ := H
  exact ⟨_, List.mem_cons_self, ρ, fun _ _ => rfl, (okM_c (pvp 270 (by show 3145728 + (131072 * ρ 0 + (64 * ρ 1 + (1 * ρ 2 + 0))) = _; omega) (by show 1048576 + (64 * ρ 3 + (1 * ρ 4 + 0)) = _; omega) k0) okM_n), okB_n, okF_n⟩
-- lst1
theorem cr_283 (M : pM) (s0 s1 s2 s3 s4 : Int) (b0 : 0 ≤ s0 ∧ s0 ≤ 7) (b1 : 0 ≤ s1 ∧ s1 ≤ 1900) (b2 : 0 ≤ s2 ∧ s2 ≤ 60) (b3 : 0 ≤ s3 ∧ s3 ≤ 1900) (b4 : 0 ≤ s4 ∧ s4 ≤ 60) (m0 : HP 270 (131072 * s0 + 64 * s1 + s2 + 2097152) (64 * s3 + s4 + 1048576) M) (hG : gI M) : (HP 271 (131072 * s0 + 64 * s1 + s2 + 1048576) (64 * s3 + s4) M ∧ True) := by
  have h : gVp (tm M) 2 s0.toNat s1.toNat s2.toNat (lkv s3.toNat s4.toNat) := gv_y (gv_g (Eq.mp hp_270 m0) 2 s0.toNat s1.toNat s2.toNat (by unfold lix; omega) (by omega) (by omega) (by omega)) (by unfold lkv; omega)
  exact ⟨Eq.mpr hp_271 (px_p 1 s0.toNat s1.toNat s2.toNat s3.toNat s4.toNat (by unfold lix; omega) (by omega) (by omega) (by omega) (by omega) (by omega) (by omega) (by omega) (gs_t1 (by omega) h)), trivial⟩
theorem rul_283 : Rul r_283 := by
  refine ⟨fun _ ρ M hm hB hF hG => ?_, fun gi gv hg => (by cases hg)⟩
  have H := cr_283 M (ρ 0) (ρ 1) (ρ 2) (ρ 3) (ρ 4) (hB _ List.mem_cons_self) (hB _ (List.mem_cons_of_mem _ List.mem_cons_self)) (hB _ (List.mem_cons_of_mem _ (List.mem_cons_of_mem _ List.mem_cons_self))) (hB _ (List.mem_cons_of_mem _ (List.mem_cons_of_mem _ (List.mem_cons_of_mem _ List.mem_cons_self)))) (hB _ (List.mem_cons_of_mem _ (List.mem_cons_of_mem _ (List.mem_cons_of_mem _ (List.mem_cons_of_mem _ List.mem_cons_self))))) (cvp 270 (x' := (131072 * (ρ 0) + 64 * (ρ 1) + (ρ 2) + 2097152)) (y' := (64 * (ρ 3) + (ρ 4) + 1048576)) (by show 2097152 + (131072 * ρ 0 + (64 * ρ 1 + (1 * ρ 2 + 0))) = _; omega) (by show 1048576 + (64 * ρ 3 + (1 * ρ 4 + 0)) = _; omega) (hm _ List.mem_cons_self)) hG
  obtain ⟨k0, -⟩ := H
  exact ⟨_, List.mem_cons_self, ρ, fun _ _ => rfl, (okM_c (pvp 271 (by show 1048576 + (131072 * ρ 0 + (64 * ρ 1 + (1 * ρ 2 + 0))) = _; omega) (by show 0 + (64 * ρ 3 + (1 * ρ 4 + 0)) = _; omega) k0) okM_n), okB_n, okF_n⟩
-- lse1
theorem cr_284 (M : pM) (s0 s1 s2 s3 : Int) (b0 : 0 ≤ s0 ∧ s0 ≤ 7) (b1 : 0 ≤ s1 ∧ s1 ≤ 1900) (b2 : 0 ≤ s2 ∧ s2 ≤ 60) (b3 : 0 ≤ s3 ∧ s3 ≤ 1900) (m0 : HP 270 (131072 * s0 + 64 * s1 + s2 + 2097152) (s3) M) (hG : gI M) : (HP 270 (131072 * s0 + 64 * s1 + s2 + 1048576) (s3) M ∧ True) := by
  have h := gv_g (Eq.mp hp_270 m0) 2 s0.toNat s1.toNat s2.toNat (by unfold lix; omega) (by omega) (by omega) (by omega)
  exact ⟨Eq.mpr hp_270 (gv_p 1 s0.toNat s1.toNat s2.toNat (by unfold lix; omega) (by omega) (by omega) (by omega) (by omega) (gv_y (gs_e1 (by omega) h) (by omega))), trivial⟩
theorem rul_284 : Rul r_284 := by
  refine ⟨fun _ ρ M hm hB hF hG => ?_, fun gi gv hg => (by cases hg)⟩
  have H := cr_284 M (ρ 0) (ρ 1) (ρ 2) (ρ 3) (hB _ List.mem_cons_self) (hB _ (List.mem_cons_of_mem _ List.mem_cons_self)) (hB _ (List.mem_cons_of_mem _ (List.mem_cons_of_mem _ List.mem_cons_self))) (hB _ (List.mem_cons_of_mem _ (List.mem_cons_of_mem _ (List.mem_cons_of_mem _ List.mem_cons_self)))) (cvp 270 (x' := (131072 * (ρ 0) + 64 * (ρ 1) + (ρ 2) + 2097152)) (y' := ((ρ 3))) (by show 2097152 + (131072 * ρ 0 + (64 * ρ 1 + (1 * ρ 2 + 0))) = _; omega) (by show 0 + (1 * ρ 3 + 0) = _; omega) (hm _ List.mem_cons_self)) hG
  obtain ⟨k0, -⟩ := H
  exact ⟨_, List.mem_cons_self, ρ, fun _ _ => rfl, (okM_c (pvp 270 (by show 1048576 + (131072 * ρ 0 + (64 * ρ 1 + (1 * ρ 2 + 0))) = _; omega) (by show 0 + (1 * ρ 3 + 0) = _; omega) k0) okM_n), okB_n, okF_n⟩
-- lsn1_0
theorem cr_285 (M : pM) (s0 s1 s2 s3 s4 s5 s6 s7 : Int) (b0 : 0 ≤ s0 ∧ s0 ≤ 7) (b1 : 0 ≤ s1 ∧ s1 ≤ 1900) (b2 : 0 ≤ s2 ∧ s2 ≤ 60) (b3 : 0 ≤ s3 ∧ s3 ≤ 1900) (b4 : 0 ≤ s4 ∧ s4 ≤ 60) (b5 : 0 ≤ s5 ∧ s5 ≤ 1900) (b6 : 0 ≤ s6 ∧ s6 ≤ 1900) (b7 : 0 ≤ s7 ∧ s7 ≤ 60) (m0 : HP 271 (131072 * s0 + 64 * s1 + s2 + 1048576) (64 * s3 + s4) M) (m1 : HP 47 (s3) (262158 : Int) M) (m2 : HP 46 (s3) (s5) M) (m3 : HP 270 (131072 * s0 + s4 + 64 * s5 + 2097152) (64 * s6 + s7 + 1048576) M) (hG : gI M) : (HP 271 (131072 * s0 + 64 * s1 + s2 + 1048576) (64 * s6 + s7) M ∧ True) := by
  have hp := px_g (Eq.mp hp_271 m0) 1 s0.toNat s1.toNat s2.toNat s3.toNat s4.toNat (by unfold lix; omega) (by omega) (by omega) (by omega) (by omega) (by omega)
  have k : ltt (tm M) s3.toNat = 2 := by
    unfold ltt
    rw [show tK (tm M) s3.toNat = _ from (q47 m1).2]
    unfold lty
    (repeat' split) <;> omega
  have e : tE (tm M) s3.toNat = s5.toNat := by
    have := (q46 m2).2
    omega
  have h : gVp (tm M) 2 s0.toNat (tE (tm M) s3.toNat) s4.toNat (lkv s6.toNat s7.toNat) := gv_y (gv_g (Eq.mp hp_270 m3) 2 s0.toNat (tE (tm M) s3.toNat) s4.toNat (by unfold lix; omega) (by omega) (by omega) (by omega)) (by unfold lkv; omega)
  exact ⟨Eq.mpr hp_271 (px_p 1 s0.toNat s1.toNat s2.toNat s6.toNat s7.toNat (by unfold lix; omega) (by omega) (by omega) (by omega) (by omega) (by omega) (by omega) (by omega) (gs_n1 (by omega) hp k h)), trivial⟩
theorem rul_285 : Rul r_285 := by
  refine ⟨fun _ ρ M hm hB hF hG => ?_, fun gi gv hg => (by cases hg)⟩
  have H := cr_285 M (ρ 0) (ρ 1) (ρ 2) (ρ 3) (ρ 4) (ρ 5) (ρ 6) (ρ 7) (hB _ List.mem_cons_self) (hB _ (List.mem_cons_of_mem _ List.mem_cons_self)) (hB _ (List.mem_cons_of_mem _ (List.mem_cons_of_mem _ List.mem_cons_self))) (hB _ (List.mem_cons_of_mem _ (List.mem_cons_of_mem _ (List.mem_cons_of_mem _ List.mem_cons_self)))) (hB _ (List.mem_cons_of_mem _ (List.mem_cons_of_mem _ (List.mem_cons_of_mem _ (List.mem_cons_of_mem _ List.mem_cons_self))))) (hB _ (List.mem_cons_of_mem _ (List.mem_cons_of_mem _ (List.mem_cons_of_mem _ (List.mem_cons_of_mem _ (List.mem_cons_of_mem _ List.mem_cons_self)))))) (hB _ (List.mem_cons_of_mem _ (List.mem_cons_of_mem _ (List.mem_cons_of_mem _ (List.mem_cons_of_mem _ (List.mem_cons_of_mem _ (List.mem_cons_of_mem _ List.mem_cons_self))))))) (hB _ (List.mem_cons_of_mem _ (List.mem_cons_of_mem _ (List.mem_cons_of_mem _ (List.mem_cons_of_mem _ (List.mem_cons_of_mem _ (List.mem_cons_of_mem _ (List.mem_cons_of_mem _ List.mem_cons_self)))))))) (cvp 271 (x' := (131072 * (ρ 0) + 64 * (ρ 1) + (ρ 2) + 1048576)) (y' := (64 * (ρ 3) + (ρ 4))) (by show 1048576 + (131072 * ρ 0 + (64 * ρ 1 + (1 * ρ 2 + 0))) = _; omega) (by show 0 + (64 * ρ 3 + (1 * ρ 4 + 0)) = _; omega) (hm _ List.mem_cons_self)) (cvp 47 (x' := ((ρ 3))) (y' := (262158 : Int)) (by show 0 + (1 * ρ 3 + 0) = _; omega) (by show 262158 + 0 = _; omega) (hm _ (List.mem_cons_of_mem _ List.mem_cons_self))) (cvp 46 (x' := ((ρ 3))) (y' := ((ρ 5))) (by show 0 + (1 * ρ 3 + 0) = _; omega) (by show 0 + (1 * ρ 5 + 0) = _; omega) (hm _ (List.mem_cons_of_mem _ (List.mem_cons_of_mem _ List.mem_cons_self)))) (cvp 270 (x' := (131072 * (ρ 0) + (ρ 4) + 64 * (ρ 5) + 2097152)) (y' := (64 * (ρ 6) + (ρ 7) + 1048576)) (by show 2097152 + (131072 * ρ 0 + (1 * ρ 4 + (64 * ρ 5 + 0))) = _; omega) (by show 1048576 + (64 * ρ 6 + (1 * ρ 7 + 0)) = _; omega) (hm _ (List.mem_cons_of_mem _ (List.mem_cons_of_mem _ (List.mem_cons_of_mem _ List.mem_cons_self))))) hG
  obtain ⟨k0, -⟩ := H
  exact ⟨_, List.mem_cons_self, ρ, fun _ _ => rfl, (okM_c (pvp 271 (by show 1048576 + (131072 * ρ 0 + (64 * ρ 1 + (1 * ρ 2 + 0))) = _; omega) (by show 0 + (64 * ρ 6 + (1 * ρ 7 + 0)) = _; omega) k0) okM_n), okB_n, okF_n⟩
-- lsx1_0
theorem cr_286 (M : pM) (s0 s1 s2 s3 s4 s5 s6 : Int) (b0 : 0 ≤ s0 ∧ s0 ≤ 7) (b1 : 0 ≤ s1 ∧ s1 ≤ 1900) (b2 : 0 ≤ s2 ∧ s2 ≤ 60) (b3 : 0 ≤ s3 ∧ s3 ≤ 1900) (b4 : 0 ≤ s4 ∧ s4 ≤ 60) (b5 : 0 ≤ s5 ∧ s5 ≤ 1900) (b6 : 0 ≤ s6 ∧ s6 ≤ 1900) (m0 : HP 271 (131072 * s0 + 64 * s1 + s2 + 1048576) (64 * s3 + s4) M) (m1 : HP 47 (s3) (262158 : Int) M) (m2 : HP 46 (s3) (s5) M) (m3 : HP 270 (131072 * s0 + s4 + 64 * s5 + 2097152) (s6) M) (hG : gI M) : (HP 270 (131072 * s0 + 64 * s1 + s2 + 1048576) (s6) M ∧ True) := by
  have hp := px_g (Eq.mp hp_271 m0) 1 s0.toNat s1.toNat s2.toNat s3.toNat s4.toNat (by unfold lix; omega) (by omega) (by omega) (by omega) (by omega) (by omega)
  have k : ltt (tm M) s3.toNat = 2 := by
    unfold ltt
    rw [show tK (tm M) s3.toNat = _ from (q47 m1).2]
    unfold lty
    (repeat' split) <;> omega
  have e : tE (tm M) s3.toNat = s5.toNat := by
    have := (q46 m2).2
    omega
  have h := gv_g (Eq.mp hp_270 m3) 2 s0.toNat (tE (tm M) s3.toNat) s4.toNat (by unfold lix; omega) (by omega) (by omega) (by omega)
  exact ⟨Eq.mpr hp_270 (gv_p 1 s0.toNat s1.toNat s2.toNat (by unfold lix; omega) (by omega) (by omega) (by omega) (by omega) (gv_y (gs_x1 (by omega) hp k h) (by omega))), trivial⟩
theorem rul_286 : Rul r_286 := by
  refine ⟨fun _ ρ M hm hB hF hG => ?_, fun gi gv hg => (by cases hg)⟩
  have H := cr_286 M (ρ 0) (ρ 1) (ρ 2) (ρ 3) (ρ 4) (ρ 5) (ρ 6) (hB _ List.mem_cons_self) (hB _ (List.mem_cons_of_mem _ List.mem_cons_self)) (hB _ (List.mem_cons_of_mem _ (List.mem_cons_of_mem _ List.mem_cons_self))) (hB _ (List.mem_cons_of_mem _ (List.mem_cons_of_mem _ (List.mem_cons_of_mem _ List.mem_cons_self)))) (hB _ (List.mem_cons_of_mem _ (List.mem_cons_of_mem _ (List.mem_cons_of_mem _ (List.mem_cons_of_mem _ List.mem_cons_self))))) (hB _ (List.mem_cons_of_mem _ (List.mem_cons_of_mem _ (List.mem_cons_of_mem _ (List.mem_cons_of_mem _ (List.mem_cons_of_mem _ List.mem_cons_self)))))) (hB _ (List.mem_cons_of_mem _ (List.mem_cons_of_mem _ (List.mem_cons_of_mem _ (List.mem_cons_of_mem _ (List.mem_cons_of_mem _ (List.mem_cons_of_mem _ List.mem_cons_self))))))) (cvp 271 (x' := (131072 * (ρ 0) + 64 * (ρ 1) + (ρ 2) + 1048576)) (y' := (64 * (ρ 3) + (ρ 4))) (by show 1048576 + (131072 * ρ 0 + (64 * ρ 1 + (1 * ρ 2 + 0))) = _; omega) (by show 0 + (64 * ρ 3 + (1 * ρ 4 + 0)) = _; omega) (hm _ List.mem_cons_self)) (cvp 47 (x' := ((ρ 3))) (y' := (262158 : Int)) (by show 0 + (1 * ρ 3 + 0) = _; omega) (by show 262158 + 0 = _; omega) (hm _ (List.mem_cons_of_mem _ List.mem_cons_self))) (cvp 46 (x' := ((ρ 3))) (y' := ((ρ 5))) (by show 0 + (1 * ρ 3 + 0) = _; omega) (by show 0 + (1 * ρ 5 + 0) = _; omega) (hm _ (List.mem_cons_of_mem _ (List.mem_cons_of_mem _ List.mem_cons_self)))) (cvp 270 (x' := (131072 * (ρ 0) + (ρ 4) + 64 * (ρ 5) + 2097152)) (y' := ((ρ 6))) (by show 2097152 + (131072 * ρ 0 + (1 * ρ 4 + (64 * ρ 5 + 0))) = _; omega) (by show 0 + (1 * ρ 6 + 0) = _; omega) (hm _ (List.mem_cons_of_mem _ (List.mem_cons_of_mem _ (List.mem_cons_of_mem _ List.mem_cons_self))))) hG
  obtain ⟨k0, -⟩ := H
  exact ⟨_, List.mem_cons_self, ρ, fun _ _ => rfl, (okM_c (pvp 270 (by show 1048576 + (131072 * ρ 0 + (64 * ρ 1 + (1 * ρ 2 + 0))) = _; omega) (by show 0 + (1 * ρ 6 + 0) = _; omega) k0) okM_n), okB_n, okF_n⟩
-- lsz1_0
theorem cr_287 (M : pM) (s0 s1 s2 s3 s4 s5 : Int) (b0 : 0 ≤ s0 ∧ s0 ≤ 7) (b1 : 0 ≤ s1 ∧ s1 ≤ 1900) (b2 : 0 ≤ s2 ∧ s2 ≤ 60) (b3 : 0 ≤ s3 ∧ s3 ≤ 1900) (b4 : 0 ≤ s4 ∧ s4 ≤ 60) (b5 : (-1) ≤ s5 ∧ s5 ≤ 600000) (m0 : HP 271 (131072 * s0 + 64 * s1 + s2 + 1048576) (64 * s3 + s4) M) (m1 : HP 47 (s3) (s5) M) (f0 : 0 ≤ ((-1) * s5 + 262157)) (hG : gI M) : (HP 270 (131072 * s0 + 64 * s1 + s2 + 1048576) (64 * s3 + s4 + 1048576) M ∧ True) := by
  have hp := px_g (Eq.mp hp_271 m0) 1 s0.toNat s1.toNat s2.toNat s3.toNat s4.toNat (by unfold lix; omega) (by omega) (by omega) (by omega) (by omega) (by omega)
  have k : ltt (tm M) s3.toNat ≠ 2 := by
    unfold ltt
    rw [show tK (tm M) s3.toNat = _ from (q47 m1).2]
    unfold lty
    (repeat' split) <;> omega
  exact ⟨Eq.mpr hp_270 (gv_p 1 s0.toNat s1.toNat s2.toNat (by unfold lix; omega) (by omega) (by omega) (by omega) (by omega) (gv_y (gs_z1 (by omega) (by omega) hp k) (by unfold lkv; omega))), trivial⟩
theorem rul_287 : Rul r_287 := by
  refine ⟨fun _ ρ M hm hB hF hG => ?_, fun gi gv hg => (by cases hg)⟩
  have H := cr_287 M (ρ 0) (ρ 1) (ρ 2) (ρ 3) (ρ 4) (ρ 5) (hB _ List.mem_cons_self) (hB _ (List.mem_cons_of_mem _ List.mem_cons_self)) (hB _ (List.mem_cons_of_mem _ (List.mem_cons_of_mem _ List.mem_cons_self))) (hB _ (List.mem_cons_of_mem _ (List.mem_cons_of_mem _ (List.mem_cons_of_mem _ List.mem_cons_self)))) (hB _ (List.mem_cons_of_mem _ (List.mem_cons_of_mem _ (List.mem_cons_of_mem _ (List.mem_cons_of_mem _ List.mem_cons_self))))) (hB _ (List.mem_cons_of_mem _ (List.mem_cons_of_mem _ (List.mem_cons_of_mem _ (List.mem_cons_of_mem _ (List.mem_cons_of_mem _ List.mem_cons_self)))))) (cvp 271 (x' := (131072 * (ρ 0) + 64 * (ρ 1) + (ρ 2) + 1048576)) (y' := (64 * (ρ 3) + (ρ 4))) (by show 1048576 + (131072 * ρ 0 + (64 * ρ 1 + (1 * ρ 2 + 0))) = _; omega) (by show 0 + (64 * ρ 3 + (1 * ρ 4 + 0)) = _; omega) (hm _ List.mem_cons_self)) (cvp 47 (x' := ((ρ 3))) (y' := ((ρ 5))) (by show 0 + (1 * ρ 3 + 0) = _; omega) (by show 0 + (1 * ρ 5 + 0) = _; omega) (hm _ (List.mem_cons_of_mem _ List.mem_cons_self))) (by have h := hF _ List.mem_cons_self; have h : 0 ≤ 262157 + ((-1) * ρ 5 + 0) := h; omega) hG
  obtain ⟨k0, -⟩ := H
  exact ⟨_, List.mem_cons_self, ρ, fun _ _ => rfl, (okM_c (pvp 270 (by show 1048576 + (131072 * ρ 0 + (64 * ρ 1 + (1 * ρ 2 + 0))) = _; omega) (by show 1048576 + (64 * ρ 3 + (1 * ρ 4 + 0)) = _; omega) k0) okM_n), okB_n, okF_n⟩
-- lsz1_1
theorem cr_288 (M : pM) (s0 s1 s2 s3 s4 s5 : Int) (b0 : 0 ≤ s0 ∧ s0 ≤ 7) (b1 : 0 ≤ s1 ∧ s1 ≤ 1900) (b2 : 0 ≤ s2 ∧ s2 ≤ 60) (b3 : 0 ≤ s3 ∧ s3 ≤ 1900) (b4 : 0 ≤ s4 ∧ s4 ≤ 60) (b5 : (-1) ≤ s5 ∧ s5 ≤ 600000) (m0 : HP 271 (131072 * s0 + 64 * s1 + s2 + 1048576) (64 * s3 + s4) M) (m1 : HP 47 (s3) (s5) M) (f0 : 0 ≤ (s5 - 262159)) (hG : gI M) : (HP 270 (131072 * s0 + 64 * s1 + s2 + 1048576) (64 * s3 + s4 + 1048576) M ∧ True) := by
  have hp := px_g (Eq.mp hp_271 m0) 1 s0.toNat s1.toNat s2.toNat s3.toNat s4.toNat (by unfold lix; omega) (by omega) (by omega) (by omega) (by omega) (by omega)
  have k : ltt (tm M) s3.toNat ≠ 2 := by
    unfold ltt
    rw [show tK (tm M) s3.toNat = _ from (q47 m1).2]
    unfold lty
    (repeat' split) <;> omega
  exact ⟨Eq.mpr hp_270 (gv_p 1 s0.toNat s1.toNat s2.toNat (by unfold lix; omega) (by omega) (by omega) (by omega) (by omega) (gv_y (gs_z1 (by omega) (by omega) hp k) (by unfold lkv; omega))), trivial⟩
theorem rul_288 : Rul r_288 := by
  refine ⟨fun _ ρ M hm hB hF hG => ?_, fun gi gv hg => (by cases hg)⟩
  have H := cr_288 M (ρ 0) (ρ 1) (ρ 2) (ρ 3) (ρ 4) (ρ 5) (hB _ List.mem_cons_self) (hB _ (List.mem_cons_of_mem _ List.mem_cons_self)) (hB _ (List.mem_cons_of_mem _ (List.mem_cons_of_mem _ List.mem_cons_self))) (hB _ (List.mem_cons_of_mem _ (List.mem_cons_of_mem _ (List.mem_cons_of_mem _ List.mem_cons_self)))) (hB _ (List.mem_cons_of_mem _ (List.mem_cons_of_mem _ (List.mem_cons_of_mem _ (List.mem_cons_of_mem _ List.mem_cons_self))))) (hB _ (List.mem_cons_of_mem _ (List.mem_cons_of_mem _ (List.mem_cons_of_mem _ (List.mem_cons_of_mem _ (List.mem_cons_of_mem _ List.mem_cons_self)))))) (cvp 271 (x' := (131072 * (ρ 0) + 64 * (ρ 1) + (ρ 2) + 1048576)) (y' := (64 * (ρ 3) + (ρ 4))) (by show 1048576 + (131072 * ρ 0 + (64 * ρ 1 + (1 * ρ 2 + 0))) = _; omega) (by show 0 + (64 * ρ 3 + (1 * ρ 4 + 0)) = _; omega) (hm _ List.mem_cons_self)) (cvp 47 (x' := ((ρ 3))) (y' := ((ρ 5))) (by show 0 + (1 * ρ 3 + 0) = _; omega) (by show 0 + (1 * ρ 5 + 0) = _; omega) (hm _ (List.mem_cons_of_mem _ List.mem_cons_self))) (by have h := hF _ List.mem_cons_self; have h : 0 ≤ (-262159) + (1 * ρ 5 + 0) := h; omega) hG
  obtain ⟨k0, -⟩ := H
  exact ⟨_, List.mem_cons_self, ρ, fun _ _ => rfl, (okM_c (pvp 270 (by show 1048576 + (131072 * ρ 0 + (64 * ρ 1 + (1 * ρ 2 + 0))) = _; omega) (by show 1048576 + (64 * ρ 3 + (1 * ρ 4 + 0)) = _; omega) k0) okM_n), okB_n, okF_n⟩
-- lst0
theorem cr_289 (M : pM) (s0 s1 s2 s3 s4 : Int) (b0 : 0 ≤ s0 ∧ s0 ≤ 7) (b1 : 0 ≤ s1 ∧ s1 ≤ 1900) (b2 : 0 ≤ s2 ∧ s2 ≤ 60) (b3 : 0 ≤ s3 ∧ s3 ≤ 1900) (b4 : 0 ≤ s4 ∧ s4 ≤ 60) (m0 : HP 270 (131072 * s0 + 64 * s1 + s2 + 1048576) (64 * s3 + s4 + 1048576) M) (hG : gI M) : (HP 271 (131072 * s0 + 64 * s1 + s2) (64 * s3 + s4) M ∧ True) := by
  have h : gVp (tm M) 1 s0.toNat s1.toNat s2.toNat (lkv s3.toNat s4.toNat) := gv_y (gv_g (Eq.mp hp_270 m0) 1 s0.toNat s1.toNat s2.toNat (by unfold lix; omega) (by omega) (by omega) (by omega)) (by unfold lkv; omega)
  exact ⟨Eq.mpr hp_271 (px_p 0 s0.toNat s1.toNat s2.toNat s3.toNat s4.toNat (by unfold lix; omega) (by omega) (by omega) (by omega) (by omega) (by omega) (by omega) (by omega) (gs_t0 (by omega) h)), trivial⟩
theorem rul_289 : Rul r_289 := by
  refine ⟨fun _ ρ M hm hB hF hG => ?_, fun gi gv hg => (by cases hg)⟩
  have H := cr_289 M (ρ 0) (ρ 1) (ρ 2) (ρ 3) (ρ 4) (hB _ List.mem_cons_self) (hB _ (List.mem_cons_of_mem _ List.mem_cons_self)) (hB _ (List.mem_cons_of_mem _ (List.mem_cons_of_mem _ List.mem_cons_self))) (hB _ (List.mem_cons_of_mem _ (List.mem_cons_of_mem _ (List.mem_cons_of_mem _ List.mem_cons_self)))) (hB _ (List.mem_cons_of_mem _ (List.mem_cons_of_mem _ (List.mem_cons_of_mem _ (List.mem_cons_of_mem _ List.mem_cons_self))))) (cvp 270 (x' := (131072 * (ρ 0) + 64 * (ρ 1) + (ρ 2) + 1048576)) (y' := (64 * (ρ 3) + (ρ 4) + 1048576)) (by show 1048576 + (131072 * ρ 0 + (64 * ρ 1 + (1 * ρ 2 + 0))) = _; omega) (by show 1048576 + (64 * ρ 3 + (1 * ρ 4 + 0)) = _; omega) (hm _ List.mem_cons_self)) hG
  obtain ⟨k0, -⟩ := H
  exact ⟨_, List.mem_cons_self, ρ, fun _ _ => rfl, (okM_c (pvp 271 (by show 0 + (131072 * ρ 0 + (64 * ρ 1 + (1 * ρ 2 + 0))) = _; omega) (by show 0 + (64 * ρ 3 + (1 * ρ 4 + 0)) = _; omega) k0) okM_n), okB_n, okF_n⟩
-- lse0
theorem cr_290 (M : pM) (s0 s1 s2 s3 : Int) (b0 : 0 ≤ s0 ∧ s0 ≤ 7) (b1 : 0 ≤ s1 ∧ s1 ≤ 1900) (b2 : 0 ≤ s2 ∧ s2 ≤ 60) (b3 : 0 ≤ s3 ∧ s3 ≤ 1900) (m0 : HP 270 (131072 * s0 + 64 * s1 + s2 + 1048576) (s3) M) (hG : gI M) : (HP 270 (131072 * s0 + 64 * s1 + s2) (s3) M ∧ True) := by
  have h := gv_g (Eq.mp hp_270 m0) 1 s0.toNat s1.toNat s2.toNat (by unfold lix; omega) (by omega) (by omega) (by omega)
  exact ⟨Eq.mpr hp_270 (gv_p 0 s0.toNat s1.toNat s2.toNat (by unfold lix; omega) (by omega) (by omega) (by omega) (by omega) (gv_y (gs_e0 (by omega) h) (by omega))), trivial⟩
theorem rul_290 : Rul r_290 := by
  refine ⟨fun _ ρ M hm hB hF hG => ?_, fun gi gv hg => (by cases hg)⟩
  have H := cr_290 M (ρ 0) (ρ 1) (ρ 2) (ρ 3) (hB _ List.mem_cons_self) (hB _ (List.mem_cons_of_mem _ List.mem_cons_self)) (hB _ (List.mem_cons_of_mem _ (List.mem_cons_of_mem _ List.mem_cons_self))) (hB _ (List.mem_cons_of_mem _ (List.mem_cons_of_mem _ (List.mem_cons_of_mem _ List.mem_cons_self)))) (cvp 270 (x' := (131072 * (ρ 0) + 64 * (ρ 1) + (ρ 2) + 1048576)) (y' := ((ρ 3))) (by show 1048576 + (131072 * ρ 0 + (64 * ρ 1 + (1 * ρ 2 + 0))) = _; omega) (by show 0 + (1 * ρ 3 + 0) = _; omega) (hm _ List.mem_cons_self)) hG
  obtain ⟨k0, -⟩ := H
  exact ⟨_, List.mem_cons_self, ρ, fun _ _ => rfl, (okM_c (pvp 270 (by show 0 + (131072 * ρ 0 + (64 * ρ 1 + (1 * ρ 2 + 0))) = _; omega) (by show 0 + (1 * ρ 3 + 0) = _; omega) k0) okM_n), okB_n, okF_n⟩
-- lsn0_0
theorem cr_291 (M : pM) (s0 s1 s2 s3 s4 s5 s6 s7 : Int) (b0 : 0 ≤ s0 ∧ s0 ≤ 7) (b1 : 0 ≤ s1 ∧ s1 ≤ 1900) (b2 : 0 ≤ s2 ∧ s2 ≤ 60) (b3 : 0 ≤ s3 ∧ s3 ≤ 1900) (b4 : 0 ≤ s4 ∧ s4 ≤ 60) (b5 : 0 ≤ s5 ∧ s5 ≤ 1900) (b6 : 0 ≤ s6 ∧ s6 ≤ 1900) (b7 : 0 ≤ s7 ∧ s7 ≤ 60) (m0 : HP 271 (131072 * s0 + 64 * s1 + s2) (64 * s3 + s4) M) (m1 : HP 47 (s3) (262159 : Int) M) (m2 : HP 46 (s3) (s5) M) (m3 : HP 270 (131072 * s0 + s4 + 64 * s5 + 1048576) (64 * s6 + s7 + 1048576) M) (hG : gI M) : (HP 271 (131072 * s0 + 64 * s1 + s2) (64 * s6 + s7) M ∧ True) := by
  have hp := px_g (Eq.mp hp_271 m0) 0 s0.toNat s1.toNat s2.toNat s3.toNat s4.toNat (by unfold lix; omega) (by omega) (by omega) (by omega) (by omega) (by omega)
  have k : ltt (tm M) s3.toNat = 1 := by
    unfold ltt
    rw [show tK (tm M) s3.toNat = _ from (q47 m1).2]
    unfold lty
    (repeat' split) <;> omega
  have e : tE (tm M) s3.toNat = s5.toNat := by
    have := (q46 m2).2
    omega
  have h : gVp (tm M) 1 s0.toNat (tE (tm M) s3.toNat) s4.toNat (lkv s6.toNat s7.toNat) := gv_y (gv_g (Eq.mp hp_270 m3) 1 s0.toNat (tE (tm M) s3.toNat) s4.toNat (by unfold lix; omega) (by omega) (by omega) (by omega)) (by unfold lkv; omega)
  exact ⟨Eq.mpr hp_271 (px_p 0 s0.toNat s1.toNat s2.toNat s6.toNat s7.toNat (by unfold lix; omega) (by omega) (by omega) (by omega) (by omega) (by omega) (by omega) (by omega) (gs_n0 (by omega) hp k h)), trivial⟩
theorem rul_291 : Rul r_291 := by
  refine ⟨fun _ ρ M hm hB hF hG => ?_, fun gi gv hg => (by cases hg)⟩
  have H := cr_291 M (ρ 0) (ρ 1) (ρ 2) (ρ 3) (ρ 4) (ρ 5) (ρ 6) (ρ 7) (hB _ List.mem_cons_self) (hB _ (List.mem_cons_of_mem _ List.mem_cons_self)) (hB _ (List.mem_cons_of_mem _ (List.mem_cons_of_mem _ List.mem_cons_self))) (hB _ (List.mem_cons_of_mem _ (List.mem_cons_of_mem _ (List.mem_cons_of_mem _ List.mem_cons_self)))) (hB _ (List.mem_cons_of_mem _ (List.mem_cons_of_mem _ (List.mem_cons_of_mem _ (List.mem_cons_of_mem _ List.mem_cons_self))))) (hB _ (List.mem_cons_of_mem _ (List.mem_cons_of_mem _ (List.mem_cons_of_mem _ (List.mem_cons_of_mem _ (List.mem_cons_of_mem _ List.mem_cons_self)))))) (hB _ (List.mem_cons_of_mem _ (List.mem_cons_of_mem _ (List.mem_cons_of_mem _ (List.mem_cons_of_mem _ (List.mem_cons_of_mem _ (List.mem_cons_of_mem _ List.mem_cons_self))))))) (hB _ (List.mem_cons_of_mem _ (List.mem_cons_of_mem _ (List.mem_cons_of_mem _ (List.mem_cons_of_mem _ (List.mem_cons_of_mem _ (List.mem_cons_of_mem _ (List.mem_cons_of_mem _ List.mem_cons_self)))))))) (cvp 271 (x' := (131072 * (ρ 0) + 64 * (ρ 1) + (ρ 2))) (y' := (64 * (ρ 3) + (ρ 4))) (by show 0 + (131072 * ρ 0 + (64 * ρ 1 + (1 * ρ 2 + 0))) = _; omega) (by show 0 + (64 * ρ 3 + (1 * ρ 4 + 0)) = _; omega) (hm _ List.mem_cons_self)) (cvp 47 (x' := ((ρ 3))) (y' := (262159 : Int)) (by show 0 + (1 * ρ 3 + 0) = _; omega) (by show 262159 + 0 = _; omega) (hm _ (List.mem_cons_of_mem _ List.mem_cons_self))) (cvp 46 (x' := ((ρ 3))) (y' := ((ρ 5))) (by show 0 + (1 * ρ 3 + 0) = _; omega) (by show 0 + (1 * ρ 5 + 0) = _; omega) (hm _ (List.mem_cons_of_mem _ (List.mem_cons_of_mem _ List.mem_cons_self)))) (cvp 270 (x' := (131072 * (ρ 0) + (ρ 4) + 64 * (ρ 5) + 1048576)) (y' := (64 * (ρ 6) + (ρ 7) + 1048576)) (by show 1048576 + (131072 * ρ 0 + (1 * ρ 4 + (64 * ρ 5 + 0))) = _; omega) (by show 1048576 + (64 * ρ 6 + (1 * ρ 7 + 0)) = _; omega) (hm _ (List.mem_cons_of_mem _ (List.mem_cons_of_mem _ (List.mem_cons_of_mem _ List.mem_cons_self))))) hG
  obtain ⟨k0, -⟩ := H
  exact ⟨_, List.mem_cons_self, ρ, fun _ _ => rfl, (okM_c (pvp 271 (by show 0 + (131072 * ρ 0 + (64 * ρ 1 + (1 * ρ 2 + 0))) = _; omega) (by show 0 + (64 * ρ 6 + (1 * ρ 7 + 0)) = _; omega) k0) okM_n), okB_n, okF_n⟩
-- lsx0_0
theorem cr_292 (M : pM) (s0 s1 s2 s3 s4 s5 s6 : Int) (b0 : 0 ≤ s0 ∧ s0 ≤ 7) (b1 : 0 ≤ s1 ∧ s1 ≤ 1900) (b2 : 0 ≤ s2 ∧ s2 ≤ 60) (b3 : 0 ≤ s3 ∧ s3 ≤ 1900) (b4 : 0 ≤ s4 ∧ s4 ≤ 60) (b5 : 0 ≤ s5 ∧ s5 ≤ 1900) (b6 : 0 ≤ s6 ∧ s6 ≤ 1900) (m0 : HP 271 (131072 * s0 + 64 * s1 + s2) (64 * s3 + s4) M) (m1 : HP 47 (s3) (262159 : Int) M) (m2 : HP 46 (s3) (s5) M) (m3 : HP 270 (131072 * s0 + s4 + 64 * s5 + 1048576) (s6) M) (hG : gI M) : (HP 270 (131072 * s0 + 64 * s1 + s2) (s6) M ∧ True) := by
  have hp := px_g (Eq.mp hp_271 m0) 0 s0.toNat s1.toNat s2.toNat s3.toNat s4.toNat (by unfold lix; omega) (by omega) (by omega) (by omega) (by omega) (by omega)
  have k : ltt (tm M) s3.toNat = 1 := by
    unfold ltt
    rw [show tK (tm M) s3.toNat = _ from (q47 m1).2]
    unfold lty
    (repeat' split) <;> omega
  have e : tE (tm M) s3.toNat = s5.toNat := by
    have := (q46 m2).2
    omega
  have h := gv_g (Eq.mp hp_270 m3) 1 s0.toNat (tE (tm M) s3.toNat) s4.toNat (by unfold lix; omega) (by omega) (by omega) (by omega)
  exact ⟨Eq.mpr hp_270 (gv_p 0 s0.toNat s1.toNat s2.toNat (by unfold lix; omega) (by omega) (by omega) (by omega) (by omega) (gv_y (gs_x0 (by omega) hp k h) (by omega))), trivial⟩
theorem rul_292 : Rul r_292 := by
  refine ⟨fun _ ρ M hm hB hF hG => ?_, fun gi gv hg => (by cases hg)⟩
  have H := cr_292 M (ρ 0) (ρ 1) (ρ 2) (ρ 3) (ρ 4) (ρ 5) (ρ 6) (hB _ List.mem_cons_self) (hB _ (List.mem_cons_of_mem _ List.mem_cons_self)) (hB _ (List.mem_cons_of_mem _ (List.mem_cons_of_mem _ List.mem_cons_self))) (hB _ (List.mem_cons_of_mem _ (List.mem_cons_of_mem _ (List.mem_cons_of_mem _ List.mem_cons_self)))) (hB _ (List.mem_cons_of_mem _ (List.mem_cons_of_mem _ (List.mem_cons_of_mem _ (List.mem_cons_of_mem _ List.mem_cons_self))))) (hB _ (List.mem_cons_of_mem _ (List.mem_cons_of_mem _ (List.mem_cons_of_mem _ (List.mem_cons_of_mem _ (List.mem_cons_of_mem _ List.mem_cons_self)))))) (hB _ (List.mem_cons_of_mem _ (List.mem_cons_of_mem _ (List.mem_cons_of_mem _ (List.mem_cons_of_mem _ (List.mem_cons_of_mem _ (List.mem_cons_of_mem _ List.mem_cons_self))))))) (cvp 271 (x' := (131072 * (ρ 0) + 64 * (ρ 1) + (ρ 2))) (y' := (64 * (ρ 3) + (ρ 4))) (by show 0 + (131072 * ρ 0 + (64 * ρ 1 + (1 * ρ 2 + 0))) = _; omega) (by show 0 + (64 * ρ 3 + (1 * ρ 4 + 0)) = _; omega) (hm _ List.mem_cons_self)) (cvp 47 (x' := ((ρ 3))) (y' := (262159 : Int)) (by show 0 + (1 * ρ 3 + 0) = _; omega) (by show 262159 + 0 = _; omega) (hm _ (List.mem_cons_of_mem _ List.mem_cons_self))) (cvp 46 (x' := ((ρ 3))) (y' := ((ρ 5))) (by show 0 + (1 * ρ 3 + 0) = _; omega) (by show 0 + (1 * ρ 5 + 0) = _; omega) (hm _ (List.mem_cons_of_mem _ (List.mem_cons_of_mem _ List.mem_cons_self)))) (cvp 270 (x' := (131072 * (ρ 0) + (ρ 4) + 64 * (ρ 5) + 1048576)) (y' := ((ρ 6))) (by show 1048576 + (131072 * ρ 0 + (1 * ρ 4 + (64 * ρ 5 + 0))) = _; omega) (by show 0 + (1 * ρ 6 + 0) = _; omega) (hm _ (List.mem_cons_of_mem _ (List.mem_cons_of_mem _ (List.mem_cons_of_mem _ List.mem_cons_self))))) hG
  obtain ⟨k0, -⟩ := H
  exact ⟨_, List.mem_cons_self, ρ, fun _ _ => rfl, (okM_c (pvp 270 (by show 0 + (131072 * ρ 0 + (64 * ρ 1 + (1 * ρ 2 + 0))) = _; omega) (by show 0 + (1 * ρ 6 + 0) = _; omega) k0) okM_n), okB_n, okF_n⟩
-- lsz0_0
theorem cr_293 (M : pM) (s0 s1 s2 s3 s4 s5 : Int) (b0 : 0 ≤ s0 ∧ s0 ≤ 7) (b1 : 0 ≤ s1 ∧ s1 ≤ 1900) (b2 : 0 ≤ s2 ∧ s2 ≤ 60) (b3 : 0 ≤ s3 ∧ s3 ≤ 1900) (b4 : 0 ≤ s4 ∧ s4 ≤ 60) (b5 : (-1) ≤ s5 ∧ s5 ≤ 600000) (m0 : HP 271 (131072 * s0 + 64 * s1 + s2) (64 * s3 + s4) M) (m1 : HP 47 (s3) (s5) M) (f0 : 0 ≤ ((-1) * s5 + 262158)) (hG : gI M) : (HP 270 (131072 * s0 + 64 * s1 + s2) (64 * s3 + s4 + 1048576) M ∧ True) := by
  have hp := px_g (Eq.mp hp_271 m0) 0 s0.toNat s1.toNat s2.toNat s3.toNat s4.toNat (by unfold lix; omega) (by omega) (by omega) (by omega) (by omega) (by omega)
  have k : ltt (tm M) s3.toNat ≠ 1 := by
    unfold ltt
    rw [show tK (tm M) s3.toNat = _ from (q47 m1).2]
    unfold lty
    (repeat' split) <;> omega
  exact ⟨Eq.mpr hp_270 (gv_p 0 s0.toNat s1.toNat s2.toNat (by unfold lix; omega) (by omega) (by omega) (by omega) (by omega) (gv_y (gs_z0 (by omega) (by omega) hp k) (by unfold lkv; omega))), trivial⟩
theorem rul_293 : Rul r_293 := by
  refine ⟨fun _ ρ M hm hB hF hG => ?_, fun gi gv hg => (by cases hg)⟩
  have H := cr_293 M (ρ 0) (ρ 1) (ρ 2) (ρ 3) (ρ 4) (ρ 5) (hB _ List.mem_cons_self) (hB _ (List.mem_cons_of_mem _ List.mem_cons_self)) (hB _ (List.mem_cons_of_mem _ (List.mem_cons_of_mem _ List.mem_cons_self))) (hB _ (List.mem_cons_of_mem _ (List.mem_cons_of_mem _ (List.mem_cons_of_mem _ List.mem_cons_self)))) (hB _ (List.mem_cons_of_mem _ (List.mem_cons_of_mem _ (List.mem_cons_of_mem _ (List.mem_cons_of_mem _ List.mem_cons_self))))) (hB _ (List.mem_cons_of_mem _ (List.mem_cons_of_mem _ (List.mem_cons_of_mem _ (List.mem_cons_of_mem _ (List.mem_cons_of_mem _ List.mem_cons_self)))))) (cvp 271 (x' := (131072 * (ρ 0) + 64 * (ρ 1) + (ρ 2))) (y' := (64 * (ρ 3) + (ρ 4))) (by show 0 + (131072 * ρ 0 + (64 * ρ 1 + (1 * ρ 2 + 0))) = _; omega) (by show 0 + (64 * ρ 3 + (1 * ρ 4 + 0)) = _; omega) (hm _ List.mem_cons_self)) (cvp 47 (x' := ((ρ 3))) (y' := ((ρ 5))) (by show 0 + (1 * ρ 3 + 0) = _; omega) (by show 0 + (1 * ρ 5 + 0) = _; omega) (hm _ (List.mem_cons_of_mem _ List.mem_cons_self))) (by have h := hF _ List.mem_cons_self; have h : 0 ≤ 262158 + ((-1) * ρ 5 + 0) := h; omega) hG
  obtain ⟨k0, -⟩ := H
  exact ⟨_, List.mem_cons_self, ρ, fun _ _ => rfl, (okM_c (pvp 270 (by show 0 + (131072 * ρ 0 + (64 * ρ 1 + (1 * ρ 2 + 0))) = _; omega) (by show 1048576 + (64 * ρ 3 + (1 * ρ 4 + 0)) = _; omega) k0) okM_n), okB_n, okF_n⟩
-- lsz0_1
theorem cr_294 (M : pM) (s0 s1 s2 s3 s4 s5 : Int) (b0 : 0 ≤ s0 ∧ s0 ≤ 7) (b1 : 0 ≤ s1 ∧ s1 ≤ 1900) (b2 : 0 ≤ s2 ∧ s2 ≤ 60) (b3 : 0 ≤ s3 ∧ s3 ≤ 1900) (b4 : 0 ≤ s4 ∧ s4 ≤ 60) (b5 : (-1) ≤ s5 ∧ s5 ≤ 600000) (m0 : HP 271 (131072 * s0 + 64 * s1 + s2) (64 * s3 + s4) M) (m1 : HP 47 (s3) (s5) M) (f0 : 0 ≤ (s5 - 262160)) (hG : gI M) : (HP 270 (131072 * s0 + 64 * s1 + s2) (64 * s3 + s4 + 1048576) M ∧ True) := by
  have hp := px_g (Eq.mp hp_271 m0) 0 s0.toNat s1.toNat s2.toNat s3.toNat s4.toNat (by unfold lix; omega) (by omega) (by omega) (by omega) (by omega) (by omega)
  have k : ltt (tm M) s3.toNat ≠ 1 := by
    unfold ltt
    rw [show tK (tm M) s3.toNat = _ from (q47 m1).2]
    unfold lty
    (repeat' split) <;> omega
  exact ⟨Eq.mpr hp_270 (gv_p 0 s0.toNat s1.toNat s2.toNat (by unfold lix; omega) (by omega) (by omega) (by omega) (by omega) (gv_y (gs_z0 (by omega) (by omega) hp k) (by unfold lkv; omega))), trivial⟩
theorem rul_294 : Rul r_294 := by
  refine ⟨fun _ ρ M hm hB hF hG => ?_, fun gi gv hg => (by cases hg)⟩
  have H := cr_294 M (ρ 0) (ρ 1) (ρ 2) (ρ 3) (ρ 4) (ρ 5) (hB _ List.mem_cons_self) (hB _ (List.mem_cons_of_mem _ List.mem_cons_self)) (hB _ (List.mem_cons_of_mem _ (List.mem_cons_of_mem _ List.mem_cons_self))) (hB _ (List.mem_cons_of_mem _ (List.mem_cons_of_mem _ (List.mem_cons_of_mem _ List.mem_cons_self)))) (hB _ (List.mem_cons_of_mem _ (List.mem_cons_of_mem _ (List.mem_cons_of_mem _ (List.mem_cons_of_mem _ List.mem_cons_self))))) (hB _ (List.mem_cons_of_mem _ (List.mem_cons_of_mem _ (List.mem_cons_of_mem _ (List.mem_cons_of_mem _ (List.mem_cons_of_mem _ List.mem_cons_self)))))) (cvp 271 (x' := (131072 * (ρ 0) + 64 * (ρ 1) + (ρ 2))) (y' := (64 * (ρ 3) + (ρ 4))) (by show 0 + (131072 * ρ 0 + (64 * ρ 1 + (1 * ρ 2 + 0))) = _; omega) (by show 0 + (64 * ρ 3 + (1 * ρ 4 + 0)) = _; omega) (hm _ List.mem_cons_self)) (cvp 47 (x' := ((ρ 3))) (y' := ((ρ 5))) (by show 0 + (1 * ρ 3 + 0) = _; omega) (by show 0 + (1 * ρ 5 + 0) = _; omega) (hm _ (List.mem_cons_of_mem _ List.mem_cons_self))) (by have h := hF _ List.mem_cons_self; have h : 0 ≤ (-262160) + (1 * ρ 5 + 0) := h; omega) hG
  obtain ⟨k0, -⟩ := H
  exact ⟨_, List.mem_cons_self, ρ, fun _ _ => rfl, (okM_c (pvp 270 (by show 0 + (131072 * ρ 0 + (64 * ρ 1 + (1 * ρ 2 + 0))) = _; omega) (by show 1048576 + (64 * ρ 3 + (1 * ρ 4 + 0)) = _; omega) k0) okM_n), okB_n, okF_n⟩
-- lof
theorem cr_295 (M : pM) (s0 s1 s2 : Int) (b0 : 0 ≤ s0 ∧ s0 ≤ 7) (b1 : 0 ≤ s1 ∧ s1 ≤ 1900) (b2 : 0 ≤ s2 ∧ s2 ≤ 60) (m0 : HP 47 (s1) (262160 : Int) M) (f0 : 0 ≤ (s0 - 7)) (hG : gI M) : (HP 270 (131072 * s0 + 64 * s1 + s2 + 2097152) (s1) M ∧ True) := by
  have k : ltt (tm M) s1.toNat = 3 := by
    unfold ltt
    rw [show tK (tm M) s1.toNat = _ from (q47 m0).2]
    unfold lty
    (repeat' split) <;> omega
  exact ⟨Eq.mpr hp_270 (gv_p 2 s0.toNat s1.toNat s2.toNat (by unfold lix; omega) (by omega) (by omega) (by omega) (by omega) (gv_y (go_f (by omega) k (by omega)) (by omega))), trivial⟩
theorem rul_295 : Rul r_295 := by
  refine ⟨fun _ ρ M hm hB hF hG => ?_, fun gi gv hg => (by cases hg)⟩
  have H := cr_295 M (ρ 0) (ρ 1) (ρ 2) (hB _ List.mem_cons_self) (hB _ (List.mem_cons_of_mem _ List.mem_cons_self)) (hB _ (List.mem_cons_of_mem _ (List.mem_cons_of_mem _ List.mem_cons_self))) (cvp 47 (x' := ((ρ 1))) (y' := (262160 : Int)) (by show 0 + (1 * ρ 1 + 0) = _; omega) (by show 262160 + 0 = _; omega) (hm _ List.mem_cons_self)) (by have h := hF _ List.mem_cons_self; have h : 0 ≤ (-7) + (1 * ρ 0 + 0) := h; omega) hG
  obtain ⟨k0, -⟩ := H
  exact ⟨_, List.mem_cons_self, ρ, fun _ _ => rfl, (okM_c (pvp 270 (by show 2097152 + (131072 * ρ 0 + (64 * ρ 1 + (1 * ρ 2 + 0))) = _; omega) (by show 0 + (1 * ρ 1 + 0) = _; omega) k0) okM_n), okB_n, okF_n⟩
-- lon
theorem cr_296 (M : pM) (s0 s1 s2 s3 s4 s5 : Int) (b0 : 0 ≤ s0 ∧ s0 ≤ 7) (b1 : 0 ≤ s1 ∧ s1 ≤ 1900) (b2 : 0 ≤ s2 ∧ s2 ≤ 60) (b3 : 0 ≤ s3 ∧ s3 ≤ 1900) (b4 : 0 ≤ s4 ∧ s4 ≤ 1900) (b5 : 0 ≤ s5 ∧ s5 ≤ 60) (m0 : HP 47 (s1) (262160 : Int) M) (m1 : HP 46 (s1) (s3) M) (m2 : HP 270 (131072 * s0 + s2 + 64 * s3 + 2228224) (64 * s4 + s5 + 1048576) M) (f0 : 0 ≤ ((-1) * s0 + 6)) (hG : gI M) : (HP 270 (131072 * s0 + 64 * s1 + s2 + 2097152) (64 * s4 + s5 + 1048576) M ∧ True) := by
  have k : ltt (tm M) s1.toNat = 3 := by
    unfold ltt
    rw [show tK (tm M) s1.toNat = _ from (q47 m0).2]
    unfold lty
    (repeat' split) <;> omega
  have e : tE (tm M) s1.toNat = s3.toNat := by
    have := (q46 m1).2
    omega
  have h : gVp (tm M) 2 (s0.toNat + 1) (tE (tm M) s1.toNat) s2.toNat (lkv s4.toNat s5.toNat) := gv_y (gv_g (Eq.mp hp_270 m2) 2 (s0.toNat + 1) (tE (tm M) s1.toNat) s2.toNat (by unfold lix; omega) (by omega) (by omega) (by omega)) (by unfold lkv; omega)
  exact ⟨Eq.mpr hp_270 (gv_p 2 s0.toNat s1.toNat s2.toNat (by unfold lix; omega) (by omega) (by omega) (by omega) (by omega) (gv_y (go_n k (by omega) (by omega) (by omega) h) (by unfold lkv; omega))), trivial⟩
theorem rul_296 : Rul r_296 := by
  refine ⟨fun _ ρ M hm hB hF hG => ?_, fun gi gv hg => (by cases hg)⟩
  have H := cr_296 M (ρ 0) (ρ 1) (ρ 2) (ρ 3) (ρ 4) (ρ 5) (hB _ List.mem_cons_self) (hB _ (List.mem_cons_of_mem _ List.mem_cons_self)) (hB _ (List.mem_cons_of_mem _ (List.mem_cons_of_mem _ List.mem_cons_self))) (hB _ (List.mem_cons_of_mem _ (List.mem_cons_of_mem _ (List.mem_cons_of_mem _ List.mem_cons_self)))) (hB _ (List.mem_cons_of_mem _ (List.mem_cons_of_mem _ (List.mem_cons_of_mem _ (List.mem_cons_of_mem _ List.mem_cons_self))))) (hB _ (List.mem_cons_of_mem _ (List.mem_cons_of_mem _ (List.mem_cons_of_mem _ (List.mem_cons_of_mem _ (List.mem_cons_of_mem _ List.mem_cons_self)))))) (cvp 47 (x' := ((ρ 1))) (y' := (262160 : Int)) (by show 0 + (1 * ρ 1 + 0) = _; omega) (by show 262160 + 0 = _; omega) (hm _ List.mem_cons_self)) (cvp 46 (x' := ((ρ 1))) (y' := ((ρ 3))) (by show 0 + (1 * ρ 1 + 0) = _; omega) (by show 0 + (1 * ρ 3 + 0) = _; omega) (hm _ (List.mem_cons_of_mem _ List.mem_cons_self))) (cvp 270 (x' := (131072 * (ρ 0) + (ρ 2) + 64 * (ρ 3) + 2228224)) (y' := (64 * (ρ 4) + (ρ 5) + 1048576)) (by show 2228224 + (131072 * ρ 0 + (1 * ρ 2 + (64 * ρ 3 + 0))) = _; omega) (by show 1048576 + (64 * ρ 4 + (1 * ρ 5 + 0)) = _; omega) (hm _ (List.mem_cons_of_mem _ (List.mem_cons_of_mem _ List.mem_cons_self)))) (by have h := hF _ List.mem_cons_self; have h : 0 ≤ 6 + ((-1) * ρ 0 + 0) := h; omega) hG
  obtain ⟨k0, -⟩ := H
  exact ⟨_, List.mem_cons_self, ρ, fun _ _ => rfl, (okM_c (pvp 270 (by show 2097152 + (131072 * ρ 0 + (64 * ρ 1 + (1 * ρ 2 + 0))) = _; omega) (by show 1048576 + (64 * ρ 4 + (1 * ρ 5 + 0)) = _; omega) k0) okM_n), okB_n, okF_n⟩
-- loe
theorem cr_297 (M : pM) (s0 s1 s2 s3 s4 : Int) (b0 : 0 ≤ s0 ∧ s0 ≤ 7) (b1 : 0 ≤ s1 ∧ s1 ≤ 1900) (b2 : 0 ≤ s2 ∧ s2 ≤ 60) (b3 : 0 ≤ s3 ∧ s3 ≤ 1900) (b4 : 0 ≤ s4 ∧ s4 ≤ 1900) (m0 : HP 47 (s1) (262160 : Int) M) (m1 : HP 46 (s1) (s3) M) (m2 : HP 270 (131072 * s0 + s2 + 64 * s3 + 2228224) (s4) M) (f0 : 0 ≤ ((-1) * s0 + 6)) (hG : gI M) : (HP 270 (131072 * s0 + 64 * s1 + s2 + 2097152) (s4) M ∧ True) := by
  have k : ltt (tm M) s1.toNat = 3 := by
    unfold ltt
    rw [show tK (tm M) s1.toNat = _ from (q47 m0).2]
    unfold lty
    (repeat' split) <;> omega
  have e : tE (tm M) s1.toNat = s3.toNat := by
    have := (q46 m1).2
    omega
  have h := gv_g (Eq.mp hp_270 m2) 2 (s0.toNat + 1) (tE (tm M) s1.toNat) s2.toNat (by unfold lix; omega) (by omega) (by omega) (by omega)
  exact ⟨Eq.mpr hp_270 (gv_p 2 s0.toNat s1.toNat s2.toNat (by unfold lix; omega) (by omega) (by omega) (by omega) (by omega) (gv_y (go_e k (by omega) (by omega) h) (by omega))), trivial⟩
theorem rul_297 : Rul r_297 := by
  refine ⟨fun _ ρ M hm hB hF hG => ?_, fun gi gv hg => (by cases hg)⟩
  have H := cr_297 M (ρ 0) (ρ 1) (ρ 2) (ρ 3) (ρ 4) (hB _ List.mem_cons_self) (hB _ (List.mem_cons_of_mem _ List.mem_cons_self)) (hB _ (List.mem_cons_of_mem _ (List.mem_cons_of_mem _ List.mem_cons_self))) (hB _ (List.mem_cons_of_mem _ (List.mem_cons_of_mem _ (List.mem_cons_of_mem _ List.mem_cons_self)))) (hB _ (List.mem_cons_of_mem _ (List.mem_cons_of_mem _ (List.mem_cons_of_mem _ (List.mem_cons_of_mem _ List.mem_cons_self))))) (cvp 47 (x' := ((ρ 1))) (y' := (262160 : Int)) (by show 0 + (1 * ρ 1 + 0) = _; omega) (by show 262160 + 0 = _; omega) (hm _ List.mem_cons_self)) (cvp 46 (x' := ((ρ 1))) (y' := ((ρ 3))) (by show 0 + (1 * ρ 1 + 0) = _; omega) (by show 0 + (1 * ρ 3 + 0) = _; omega) (hm _ (List.mem_cons_of_mem _ List.mem_cons_self))) (cvp 270 (x' := (131072 * (ρ 0) + (ρ 2) + 64 * (ρ 3) + 2228224)) (y' := ((ρ 4))) (by show 2228224 + (131072 * ρ 0 + (1 * ρ 2 + (64 * ρ 3 + 0))) = _; omega) (by show 0 + (1 * ρ 4 + 0) = _; omega) (hm _ (List.mem_cons_of_mem _ (List.mem_cons_of_mem _ List.mem_cons_self)))) (by have h := hF _ List.mem_cons_self; have h : 0 ≤ 6 + ((-1) * ρ 0 + 0) := h; omega) hG
  obtain ⟨k0, -⟩ := H
  exact ⟨_, List.mem_cons_self, ρ, fun _ _ => rfl, (okM_c (pvp 270 (by show 2097152 + (131072 * ρ 0 + (64 * ρ 1 + (1 * ρ 2 + 0))) = _; omega) (by show 0 + (1 * ρ 4 + 0) = _; omega) k0) okM_n), okB_n, okF_n⟩
-- los
theorem cr_298 (M : pM) (s0 s1 s2 s3 : Int) (b0 : 0 ≤ s0 ∧ s0 ≤ 7) (b1 : 0 ≤ s1 ∧ s1 ≤ 1900) (b2 : 0 ≤ s2 ∧ s2 ≤ 60) (b3 : 0 ≤ s3 ∧ s3 ≤ 1900) (m0 : HP 272 (s1) (0 : Int) M) (m1 : HP 270 (131072 * s0 + 64 * s1 + s2 + 3145728) (s3) M) (hG : gI M) : (HP 270 (131072 * s0 + 64 * s1 + s2 + 2097152) (s3) M ∧ True) := by
  have k := (Eq.mp hp_272 m0).2
  have h := gv_g (Eq.mp hp_270 m1) 3 s0.toNat s1.toNat s2.toNat (by unfold lix; omega) (by omega) (by omega) (by omega)
  exact ⟨Eq.mpr hp_270 (gv_p 2 s0.toNat s1.toNat s2.toNat (by unfold lix; omega) (by omega) (by omega) (by omega) (by omega) (gv_y (go_s k (by omega) h) (by omega))), trivial⟩
theorem rul_298 : Rul r_298 := by
  refine ⟨fun _ ρ M hm hB hF hG => ?_, fun gi gv hg => (by cases hg)⟩
  have H := cr_298 M (ρ 0) (ρ 1) (ρ 2) (ρ 3) (hB _ List.mem_cons_self) (hB _ (List.mem_cons_of_mem _ List.mem_cons_self)) (hB _ (List.mem_cons_of_mem _ (List.mem_cons_of_mem _ List.mem_cons_self))) (hB _ (List.mem_cons_of_mem _ (List.mem_cons_of_mem _ (List.mem_cons_of_mem _ List.mem_cons_self)))) (cvp 272 (x' := ((ρ 1))) (y' := (0 : Int)) (by show 0 + (1 * ρ 1 + 0) = _; omega) (by show 0 + 0 = _; omega) (hm _ List.mem_cons_self)) (cvp 270 (x' := (131072 * (ρ 0) + 64 * (ρ 1) + (ρ 2) + 3145728)) (y' := ((ρ 3))) (by show 3145728 + (131072 * ρ 0 + (64 * ρ 1 + (1 * ρ 2 + 0))) = _; omega) (by show 0 + (1 * ρ 3 + 0) = _; omega) (hm _ (List.mem_cons_of_mem _ List.mem_cons_self))) hG
  obtain ⟨k0, -⟩ := H
  exact ⟨_, List.mem_cons_self, ρ, fun _ _ => rfl, (okM_c (pvp 270 (by show 2097152 + (131072 * ρ 0 + (64 * ρ 1 + (1 * ρ 2 + 0))) = _; omega) (by show 0 + (1 * ρ 3 + 0) = _; omega) k0) okM_n), okB_n, okF_n⟩
-- lop
theorem cr_299 (M : pM) (s0 s1 s2 s3 s4 : Int) (b0 : 0 ≤ s0 ∧ s0 ≤ 7) (b1 : 0 ≤ s1 ∧ s1 ≤ 1900) (b2 : 0 ≤ s2 ∧ s2 ≤ 60) (b3 : 0 ≤ s3 ∧ s3 ≤ 1900) (b4 : 0 ≤ s4 ∧ s4 ≤ 60) (m0 : HP 272 (s1) (0 : Int) M) (m1 : HP 270 (131072 * s0 + 64 * s1 + s2 + 3145728) (64 * s3 + s4 + 1048576) M) (hG : gI M) : (HP 271 (131072 * s0 + 64 * s1 + s2 + 2097152) (64 * s3 + s4) M ∧ True) := by
  have k := (Eq.mp hp_272 m0).2
  have h : gVp (tm M) 3 s0.toNat s1.toNat s2.toNat (lkv s3.toNat s4.toNat) := gv_y (gv_g (Eq.mp hp_270 m1) 3 s0.toNat s1.toNat s2.toNat (by unfold lix; omega) (by omega) (by omega) (by omega)) (by unfold lkv; omega)
  exact ⟨Eq.mpr hp_271 (px_p 2 s0.toNat s1.toNat s2.toNat s3.toNat s4.toNat (by unfold lix; omega) (by omega) (by omega) (by omega) (by omega) (by omega) (by omega) (by omega) (go_p k h)), trivial⟩
theorem rul_299 : Rul r_299 := by
  refine ⟨fun _ ρ M hm hB hF hG => ?_, fun gi gv hg => (by cases hg)⟩
  have H := cr_299 M (ρ 0) (ρ 1) (ρ 2) (ρ 3) (ρ 4) (hB _ List.mem_cons_self) (hB _ (List.mem_cons_of_mem _ List.mem_cons_self)) (hB _ (List.mem_cons_of_mem _ (List.mem_cons_of_mem _ List.mem_cons_self))) (hB _ (List.mem_cons_of_mem _ (List.mem_cons_of_mem _ (List.mem_cons_of_mem _ List.mem_cons_self)))) (hB _ (List.mem_cons_of_mem _ (List.mem_cons_of_mem _ (List.mem_cons_of_mem _ (List.mem_cons_of_mem _ List.mem_cons_self))))) (cvp 272 (x' := ((ρ 1))) (y' := (0 : Int)) (by show 0 + (1 * ρ 1 + 0) = _; omega) (by show 0 + 0 = _; omega) (hm _ List.mem_cons_self)) (cvp 270 (x' := (131072 * (ρ 0) + 64 * (ρ 1) + (ρ 2) + 3145728)) (y' := (64 * (ρ 3) + (ρ 4) + 1048576)) (by show 3145728 + (131072 * ρ 0 + (64 * ρ 1 + (1 * ρ 2 + 0))) = _; omega) (by show 1048576 + (64 * ρ 3 + (1 * ρ 4 + 0)) = _; omega) (hm _ (List.mem_cons_of_mem _ List.mem_cons_self))) hG
  obtain ⟨k0, -⟩ := H
  exact ⟨_, List.mem_cons_self, ρ, fun _ _ => rfl, (okM_c (pvp 271 (by show 2097152 + (131072 * ρ 0 + (64 * ρ 1 + (1 * ρ 2 + 0))) = _; omega) (by show 0 + (64 * ρ 3 + (1 * ρ 4 + 0)) = _; omega) k0) okM_n), okB_n, okF_n⟩
