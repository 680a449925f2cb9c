-- loo
theorem cr_300 (M : pM) (s0 s1 s2 s3 s4 : Int) (b0 : 0 ≤ s0 ∧ s0 ≤ 7) (b1 : 0 ≤ s1 ∧ s1 ≤ 1900) (b2 : 0 ≤ s2 ∧ s2 ≤ 60) (b3 : 0 ≤ s3 ∧ s3 ≤ 1900) (b4 : 0 ≤ s4 ∧ s4 ≤ 60) (m0 : HP 271 (131072 * s0 + 64 * s1 + s2 + 2097152) (64 * s3 + s4) M) (m1 : HP 273 (s3) (0 : Int) M) (hG : gI M) : (HP 270 (131072 * s0 + 64 * s1 + s2 + 2097152) (64 * s3 + s4 + 1048576) M ∧ True) := by
  have hp := px_g (Eq.mp hp_271 m0) 2 s0.toNat s1.toNat s2.toNat s3.toNat s4.toNat (by unfold lix; omega) (by omega) (by omega) (by omega) (by omega) (by omega)
  have k := (Eq.mp hp_273 m1).2
  exact ⟨Eq.mpr hp_270 (gv_p 2 s0.toNat s1.toNat s2.toNat (by unfold lix; omega) (by omega) (by omega) (by omega) (by omega) (gv_y (go_o (by omega) (by omega) hp k) (by unfold lkv; omega))), trivial⟩
theorem rul_300 : Rul r_300 := by
  refine ⟨fun _ ρ M hm hB hF hG => ?_, fun gi gv hg => (by cases hg)⟩
  have H := cr_300 M (ρ 0) (ρ 1) (ρ 2) (ρ 3) (ρ 4) (hB _ List.mem_cons_self) (hB _ (List.mem_cons_of_mem _ List.mem_cons_self)) (hB _ (List.mem_cons_of_mem _ (List.mem_cons_of_mem _ List.mem_cons_self))) (hB _ (List.mem_cons_of_mem _ (List.mem_cons_of_mem _ (List.mem_cons_of_mem _ List.mem_cons_self)))) (hB _ (List.mem_cons_of_mem _ (List.mem_cons_of_mem _ (List.mem_cons_of_mem _ (List.mem_cons_of_mem _ List.mem_cons_self))))) (cvp 271 (x' := (131072 * (ρ 0) + 64 * (ρ 1) + (ρ 2) + 2097152)) (y' := (64 * (ρ 3) + (ρ 4))) (by show 2097152 + (131072 * ρ 0 + (64 * ρ 1 + (1 * ρ 2 + 0))) = _; omega) (by show 0 + (64 * ρ 3 + (1 * ρ 4 + 0)) = _; omega) (hm _ List.mem_cons_self)) (cvp 273 (x' := ((ρ 3))) (y' := (0 : Int)) (by show 0 + (1 * ρ 3 + 0) = _; omega) (by show 0 + 0 = _; omega) (hm _ (List.mem_cons_of_mem _ List.mem_cons_self))) hG
  obtain ⟨k0, -⟩ := H
  exact ⟨_, List.mem_cons_self, ρ, fun _ _ => rfl, (okM_c (pvp 270 (by show 2097152 + (131072 * ρ 0 + (64 * ρ 1 + (1 * ρ 2 + 0))) = _; omega) (by show 1048576 + (64 * ρ 3 + (1 * ρ 4 + 0)) = _; omega) k0) okM_n), okB_n, okF_n⟩
-- loc
theorem cr_301 (M : pM) (s0 s1 s2 s3 s4 s5 s6 s7 s8 : Int) (b0 : 0 ≤ s0 ∧ s0 ≤ 7) (b1 : 0 ≤ s1 ∧ s1 ≤ 1900) (b2 : 0 ≤ s2 ∧ s2 ≤ 60) (b3 : 0 ≤ s3 ∧ s3 ≤ 1900) (b4 : 0 ≤ s4 ∧ s4 ≤ 60) (b5 : (-1) ≤ s5 ∧ s5 ≤ 600000) (b6 : 0 ≤ s6 ∧ s6 ≤ 1900) (b7 : 0 ≤ s7 ∧ s7 ≤ 1900) (b8 : 0 ≤ s8 ∧ s8 ≤ 60) (m0 : HP 271 (131072 * s0 + 64 * s1 + s2 + 2097152) (64 * s3 + s4) M) (m1 : HP 47 (s3) (s5) M) (m2 : HP 46 (s3) (s6) M) (m3 : HP 270 (131072 * s0 + s4 + 64 * s6 + 3145728) (64 * s7 + s8 + 1048576) M) (f0 : 0 ≤ (s5 - 524348)) (f1 : 0 ≤ ((-1) * s5 + 524350)) (hG : gI M) : (HP 270 (131072 * s0 + 64 * s1 + s2 + 2097152) (64 * s7 + s8 + 1048576) M ∧ True) := by
  have hp := px_g (Eq.mp hp_271 m0) 2 s0.toNat s1.toNat s2.toNat s3.toNat s4.toNat (by unfold lix; omega) (by omega) (by omega) (by omega) (by omega) (by omega)
  have k : ltt (tm M) s3.toNat = 4 := by
    unfold ltt
    rw [show tK (tm M) s3.toNat = _ from (q47 m1).2]
    unfold lty
    (repeat' split) <;> omega
  have e : tE (tm M) s3.toNat = s6.toNat := by
    have := (q46 m2).2
    omega
  have h : gVp (tm M) 3 s0.toNat (tE (tm M) s3.toNat) s4.toNat (lkv s7.toNat s8.toNat) := gv_y (gv_g (Eq.mp hp_270 m3) 3 s0.toNat (tE (tm M) s3.toNat) s4.toNat (by unfold lix; omega) (by omega) (by omega) (by omega)) (by unfold lkv; omega)
  exact ⟨Eq.mpr hp_270 (gv_p 2 s0.toNat s1.toNat s2.toNat (by unfold lix; omega) (by omega) (by omega) (by omega) (by omega) (gv_y (go_c (by omega) (by omega) (by omega) hp k h) (by unfold lkv; omega))), trivial⟩
theorem rul_301 : Rul r_301 := by
  refine ⟨fun _ ρ M hm hB hF hG => ?_, fun gi gv hg => (by cases hg)⟩
  have H := cr_301 M (ρ 0) (ρ 1) (ρ 2) (ρ 3) (ρ 4) (ρ 5) (ρ 6) (ρ 7) (ρ 8) (hB _ List.mem_cons_self) (hB _ (List.mem_cons_of_mem _ List.mem_cons_self)) (hB _ (List.mem_cons_of_mem _ (List.mem_cons_of_mem _ List.mem_cons_self))) (hB _ (List.mem_cons_of_mem _ (List.mem_cons_of_mem _ (List.mem_cons_of_mem _ List.mem_cons_self)))) (hB _ (List.mem_cons_of_mem _ (List.mem_cons_of_mem _ (List.mem_cons_of_mem _ (List.mem_cons_of_mem _ List.mem_cons_self))))) (hB _ (List.mem_cons_of_mem _ (List.mem_cons_of_mem _ (List.mem_cons_of_mem _ (List.mem_cons_of_mem _ (List.mem_cons_of_mem _ List.mem_cons_self)))))) (hB _ (List.mem_cons_of_mem _ (List.mem_cons_of_mem _ (List.mem_cons_of_mem _ (List.mem_cons_of_mem _ (List.mem_cons_of_mem _ (List.mem_cons_of_mem _ List.mem_cons_self))))))) (hB _ (List.mem_cons_of_mem _ (List.mem_cons_of_mem _ (List.mem_cons_of_mem _ (List.mem_cons_of_mem _ (List.mem_cons_of_mem _ (List.mem_cons_of_mem _ (List.mem_cons_of_mem _ List.mem_cons_self)))))))) (hB _ (List.mem_cons_of_mem _ (List.mem_cons_of_mem _ (List.mem_cons_of_mem _ (List.mem_cons_of_mem _ (List.mem_cons_of_mem _ (List.mem_cons_of_mem _ (List.mem_cons_of_mem _ (List.mem_cons_of_mem _ List.mem_cons_self))))))))) (cvp 271 (x' := (131072 * (ρ 0) + 64 * (ρ 1) + (ρ 2) + 2097152)) (y' := (64 * (ρ 3) + (ρ 4))) (by show 2097152 + (131072 * ρ 0 + (64 * ρ 1 + (1 * ρ 2 + 0))) = _; omega) (by show 0 + (64 * ρ 3 + (1 * ρ 4 + 0)) = _; omega) (hm _ List.mem_cons_self)) (cvp 47 (x' := ((ρ 3))) (y' := ((ρ 5))) (by show 0 + (1 * ρ 3 + 0) = _; omega) (by show 0 + (1 * ρ 5 + 0) = _; omega) (hm _ (List.mem_cons_of_mem _ List.mem_cons_self))) (cvp 46 (x' := ((ρ 3))) (y' := ((ρ 6))) (by show 0 + (1 * ρ 3 + 0) = _; omega) (by show 0 + (1 * ρ 6 + 0) = _; omega) (hm _ (List.mem_cons_of_mem _ (List.mem_cons_of_mem _ List.mem_cons_self)))) (cvp 270 (x' := (131072 * (ρ 0) + (ρ 4) + 64 * (ρ 6) + 3145728)) (y' := (64 * (ρ 7) + (ρ 8) + 1048576)) (by show 3145728 + (131072 * ρ 0 + (1 * ρ 4 + (64 * ρ 6 + 0))) = _; omega) (by show 1048576 + (64 * ρ 7 + (1 * ρ 8 + 0)) = _; omega) (hm _ (List.mem_cons_of_mem _ (List.mem_cons_of_mem _ (List.mem_cons_of_mem _ List.mem_cons_self))))) (by have h := hF _ List.mem_cons_self; have h : 0 ≤ (-524348) + (1 * ρ 5 + 0) := h; omega) (by have h := hF _ (List.mem_cons_of_mem _ List.mem_cons_self); have h : 0 ≤ 524350 + ((-1) * ρ 5 + 0) := h; omega) hG
  obtain ⟨k0, -⟩ := H
  exact ⟨_, List.mem_cons_self, ρ, fun _ _ => rfl, (okM_c (pvp 270 (by show 2097152 + (131072 * ρ 0 + (64 * ρ 1 + (1 * ρ 2 + 0))) = _; omega) (by show 1048576 + (64 * ρ 7 + (1 * ρ 8 + 0)) = _; omega) k0) okM_n), okB_n, okF_n⟩
-- lod
theorem cr_302 (M : pM) (s0 s1 s2 s3 s4 s5 s6 s7 : Int) (b0 : 0 ≤ s0 ∧ s0 ≤ 7) (b1 : 0 ≤ s1 ∧ s1 ≤ 1900) (b2 : 0 ≤ s2 ∧ s2 ≤ 60) (b3 : 0 ≤ s3 ∧ s3 ≤ 1900) (b4 : 0 ≤ s4 ∧ s4 ≤ 60) (b5 : (-1) ≤ s5 ∧ s5 ≤ 600000) (b6 : 0 ≤ s6 ∧ s6 ≤ 1900) (b7 : 0 ≤ s7 ∧ s7 ≤ 1900) (m0 : HP 271 (131072 * s0 + 64 * s1 + s2 + 2097152) (64 * s3 + s4) M) (m1 : HP 47 (s3) (s5) M) (m2 : HP 46 (s3) (s6) M) (m3 : HP 270 (131072 * s0 + s4 + 64 * s6 + 3145728) (s7) M) (f0 : 0 ≤ (s5 - 524348)) (f1 : 0 ≤ ((-1) * s5 + 524350)) (hG : gI M) : (HP 270 (131072 * s0 + 64 * s1 + s2 + 2097152) (s7) M ∧ True) := by
  have hp := px_g (Eq.mp hp_271 m0) 2 s0.toNat s1.toNat s2.toNat s3.toNat s4.toNat (by unfold lix; omega) (by omega) (by omega) (by omega) (by omega) (by omega)
  have k : ltt (tm M) s3.toNat = 4 := by
    unfold ltt
    rw [show tK (tm M) s3.toNat = _ from (q47 m1).2]
    unfold lty
    (repeat' split) <;> omega
  have e : tE (tm M) s3.toNat = s6.toNat := by
    have := (q46 m2).2
    omega
  have h := gv_g (Eq.mp hp_270 m3) 3 s0.toNat (tE (tm M) s3.toNat) s4.toNat (by unfold lix; omega) (by omega) (by omega) (by omega)
  exact ⟨Eq.mpr hp_270 (gv_p 2 s0.toNat s1.toNat s2.toNat (by unfold lix; omega) (by omega) (by omega) (by omega) (by omega) (gv_y (go_x (by omega) (by omega) hp k h) (by omega))), trivial⟩
theorem rul_302 : Rul r_302 := by
  refine ⟨fun _ ρ M hm hB hF hG => ?_, fun gi gv hg => (by cases hg)⟩
  have H := cr_302 M (ρ 0) (ρ 1) (ρ 2) (ρ 3) (ρ 4) (ρ 5) (ρ 6) (ρ 7) (hB _ List.mem_cons_self) (hB _ (List.mem_cons_of_mem _ List.mem_cons_self)) (hB _ (List.mem_cons_of_mem _ (List.mem_cons_of_mem _ List.mem_cons_self))) (hB _ (List.mem_cons_of_mem _ (List.mem_cons_of_mem _ (List.mem_cons_of_mem _ List.mem_cons_self)))) (hB _ (List.mem_cons_of_mem _ (List.mem_cons_of_mem _ (List.mem_cons_of_mem _ (List.mem_cons_of_mem _ List.mem_cons_self))))) (hB _ (List.mem_cons_of_mem _ (List.mem_cons_of_mem _ (List.mem_cons_of_mem _ (List.mem_cons_of_mem _ (List.mem_cons_of_mem _ List.mem_cons_self)))))) (hB _ (List.mem_cons_of_mem _ (List.mem_cons_of_mem _ (List.mem_cons_of_mem _ (List.mem_cons_of_mem _ (List.mem_cons_of_mem _ (List.mem_cons_of_mem _ List.mem_cons_self))))))) (hB _ (List.mem_cons_of_mem _ (List.mem_cons_of_mem _ (List.mem_cons_of_mem _ (List.mem_cons_of_mem _ (List.mem_cons_of_mem _ (List.mem_cons_of_mem _ (List.mem_cons_of_mem _ List.mem_cons_self)))))))) (cvp 271 (x' := (131072 * (ρ 0) + 64 * (ρ 1) + (ρ 2) + 2097152)) (y' := (64 * (ρ 3) + (ρ 4))) (by show 2097152 + (131072 * ρ 0 + (64 * ρ 1 + (1 * ρ 2 + 0))) = _; omega) (by show 0 + (64 * ρ 3 + (1 * ρ 4 + 0)) = _; omega) (hm _ List.mem_cons_self)) (cvp 47 (x' := ((ρ 3))) (y' := ((ρ 5))) (by show 0 + (1 * ρ 3 + 0) = _; omega) (by show 0 + (1 * ρ 5 + 0) = _; omega) (hm _ (List.mem_cons_of_mem _ List.mem_cons_self))) (cvp 46 (x' := ((ρ 3))) (y' := ((ρ 6))) (by show 0 + (1 * ρ 3 + 0) = _; omega) (by show 0 + (1 * ρ 6 + 0) = _; omega) (hm _ (List.mem_cons_of_mem _ (List.mem_cons_of_mem _ List.mem_cons_self)))) (cvp 270 (x' := (131072 * (ρ 0) + (ρ 4) + 64 * (ρ 6) + 3145728)) (y' := ((ρ 7))) (by show 3145728 + (131072 * ρ 0 + (1 * ρ 4 + (64 * ρ 6 + 0))) = _; omega) (by show 0 + (1 * ρ 7 + 0) = _; omega) (hm _ (List.mem_cons_of_mem _ (List.mem_cons_of_mem _ (List.mem_cons_of_mem _ List.mem_cons_self))))) (by have h := hF _ List.mem_cons_self; have h : 0 ≤ (-524348) + (1 * ρ 5 + 0) := h; omega) (by have h := hF _ (List.mem_cons_of_mem _ List.mem_cons_self); have h : 0 ≤ 524350 + ((-1) * ρ 5 + 0) := h; omega) hG
  obtain ⟨k0, -⟩ := H
  exact ⟨_, List.mem_cons_self, ρ, fun _ _ => rfl, (okM_c (pvp 270 (by show 2097152 + (131072 * ρ 0 + (64 * ρ 1 + (1 * ρ 2 + 0))) = _; omega) (by show 0 + (1 * ρ 7 + 0) = _; omega) k0) okM_n), okB_n, okF_n⟩
-- lrw0
theorem cr_303 (M : pM) (s0 : Int) (b0 : (-1) ≤ s0 ∧ s0 ≤ 600000) (m0 : HP 47 (0 : Int) (s0) M) (f0 : 0 ≤ ((-1) * s0 + 262156)) (hG : gI M) : (HP 275 (0 : Int) (0 : Int) M ∧ True) := by
  have k : tK (tm M) 0 = _ := (q47 m0).2
  exact ⟨Eq.mpr hp_275 (Or.inl ⟨by omega, rfl⟩), trivial⟩
theorem rul_303 : Rul r_303 := by
  refine ⟨fun _ ρ M hm hB hF hG => ?_, fun gi gv hg => (by cases hg)⟩
  have H := cr_303 M (ρ 0) (hB _ List.mem_cons_self) (cvp 47 (x' := (0 : Int)) (y' := ((ρ 0))) (by show 0 + 0 = _; omega) (by show 0 + (1 * ρ 0 + 0) = _; omega) (hm _ List.mem_cons_self)) (by have h := hF _ List.mem_cons_self; have h : 0 ≤ 262156 + ((-1) * ρ 0 + 0) := h; omega) hG
  obtain ⟨k0, -⟩ := H
  exact ⟨_, List.mem_cons_self, ρ, fun _ _ => rfl, (okM_c (pvp 275 (by show 0 + 0 = _; omega) (by show 0 + 0 = _; omega) k0) okM_n), okB_n, okF_n⟩
-- lrw1
theorem cr_304 (M : pM) (s0 : Int) (b0 : (-1) ≤ s0 ∧ s0 ≤ 600000) (m0 : HP 47 (0 : Int) (s0) M) (f0 : 0 ≤ (s0 - 262158)) (hG : gI M) : (HP 275 (0 : Int) (0 : Int) M ∧ True) := by
  have k : tK (tm M) 0 = _ := (q47 m0).2
  exact ⟨Eq.mpr hp_275 (Or.inl ⟨by omega, rfl⟩), trivial⟩
theorem rul_304 : Rul r_304 := by
  refine ⟨fun _ ρ M hm hB hF hG => ?_, fun gi gv hg => (by cases hg)⟩
  have H := cr_304 M (ρ 0) (hB _ List.mem_cons_self) (cvp 47 (x' := (0 : Int)) (y' := ((ρ 0))) (by show 0 + 0 = _; omega) (by show 0 + (1 * ρ 0 + 0) = _; omega) (hm _ List.mem_cons_self)) (by have h := hF _ List.mem_cons_self; have h : 0 ≤ (-262158) + (1 * ρ 0 + 0) := h; omega) hG
  obtain ⟨k0, -⟩ := H
  exact ⟨_, List.mem_cons_self, ρ, fun _ _ => rfl, (okM_c (pvp 275 (by show 0 + 0 = _; omega) (by show 0 + 0 = _; omega) k0) okM_n), okB_n, okF_n⟩
-- lr1
theorem cr_305 (M : pM) (s0 : Int) (b0 : 0 ≤ s0 ∧ s0 ≤ 1900) (m0 : HP 47 (0 : Int) (262157 : Int) M) (m1 : HP 46 (0 : Int) (s0) M) (hG : gI M) : (HP 276 (1 : Int) (s0) M ∧ True) := by
  have k : tK (tm M) 0 = _ := (q47 m0).2
  have e : s0 = (tE (tm M) 0 : Int) := (q46 m1).2
  exact ⟨Eq.mpr hp_276 (Or.inl ⟨rfl, k, e⟩), trivial⟩
theorem rul_305 : Rul r_305 := by
  refine ⟨fun _ ρ M hm hB hF hG => ?_, fun gi gv hg => (by cases hg)⟩
  have H := cr_305 M (ρ 0) (hB _ List.mem_cons_self) (cvp 47 (x' := (0 : Int)) (y' := (262157 : Int)) (by show 0 + 0 = _; omega) (by show 262157 + 0 = _; omega) (hm _ List.mem_cons_self)) (cvp 46 (x' := (0 : Int)) (y' := ((ρ 0))) (by show 0 + 0 = _; omega) (by show 0 + (1 * ρ 0 + 0) = _; omega) (hm _ (List.mem_cons_of_mem _ List.mem_cons_self))) hG
  obtain ⟨k0, -⟩ := H
  exact ⟨_, List.mem_cons_self, ρ, fun _ _ => rfl, (okM_c (pvp 276 (by show 1 + 0 = _; omega) (by show 0 + (1 * ρ 0 + 0) = _; omega) k0) okM_n), okB_n, okF_n⟩
-- lre
theorem cr_306 (M : pM) (s0 s1 : Int) (b0 : 0 ≤ s0 ∧ s0 ≤ 1900) (b1 : 0 ≤ s1 ∧ s1 ≤ 1900) (m0 : HP 276 (1 : Int) (s0) M) (m1 : HP 270 (64 * s0) (s1) M) (hG : gI M) : (HP 275 (0 : Int) (s1) M ∧ True) := by
  obtain ⟨_, k0, e0⟩ | ⟨z, _⟩ | ⟨z, _⟩ := Eq.mp hp_276 m0
  rotate_left
  · omega
  · omega
  have h := gv_g (Eq.mp hp_270 m1) 0 0 (tE (tm M) 0) 0 (by unfold lix; omega) (by omega) (by omega) (by omega)
  exact ⟨Eq.mpr hp_275 (Or.inr (Or.inl ⟨k0, by omega, h⟩)), trivial⟩
theorem rul_306 : Rul r_306 := by
  refine ⟨fun _ ρ M hm hB hF hG => ?_, fun gi gv hg => (by cases hg)⟩
  have H := cr_306 M (ρ 0) (ρ 1) (hB _ List.mem_cons_self) (hB _ (List.mem_cons_of_mem _ List.mem_cons_self)) (cvp 276 (x' := (1 : Int)) (y' := ((ρ 0))) (by show 1 + 0 = _; omega) (by show 0 + (1 * ρ 0 + 0) = _; omega) (hm _ List.mem_cons_self)) (cvp 270 (x' := (64 * (ρ 0))) (y' := ((ρ 1))) (by show 0 + (64 * ρ 0 + 0) = _; omega) (by show 0 + (1 * ρ 1 + 0) = _; omega) (hm _ (List.mem_cons_of_mem _ List.mem_cons_self))) hG
  obtain ⟨k0, -⟩ := H
  exact ⟨_, List.mem_cons_self, ρ, fun _ _ => rfl, (okM_c (pvp 275 (by show 0 + 0 = _; omega) (by show 0 + (1 * ρ 1 + 0) = _; omega) k0) okM_n), okB_n, okF_n⟩
-- lr2
theorem cr_307 (M : pM) (s0 s1 s2 : Int) (b0 : 0 ≤ s0 ∧ s0 ≤ 1900) (b1 : 0 ≤ s1 ∧ s1 ≤ 1900) (b2 : 0 ≤ s2 ∧ s2 ≤ 60) (m0 : HP 276 (1 : Int) (s0) M) (m1 : HP 270 (64 * s0) (64 * s1 + s2 + 1048576) M) (hG : gI M) : (HP 276 (2 : Int) (s1) M ∧ True) := by
  obtain ⟨_, k0, e0⟩ | ⟨z, _⟩ | ⟨z, _⟩ := Eq.mp hp_276 m0
  rotate_left
  · omega
  · omega
  have h : gVp (tm M) 0 0 (tE (tm M) 0) 0 (lkv s1.toNat s2.toNat) := gv_y (gv_g (Eq.mp hp_270 m1) 0 0 (tE (tm M) 0) 0 (by unfold lix; omega) (by omega) (by omega) (by omega)) (by unfold lkv; omega)
  exact ⟨Eq.mpr hp_276 (Or.inr (Or.inl ⟨rfl, s1.toNat, s2.toNat, by omega, by omega, by omega, k0, h⟩)), trivial⟩
theorem rul_307 : Rul r_307 := by
  refine ⟨fun _ ρ M hm hB hF hG => ?_, fun gi gv hg => (by cases hg)⟩
  have H := cr_307 M (ρ 0) (ρ 1) (ρ 2) (hB _ List.mem_cons_self) (hB _ (List.mem_cons_of_mem _ List.mem_cons_self)) (hB _ (List.mem_cons_of_mem _ (List.mem_cons_of_mem _ List.mem_cons_self))) (cvp 276 (x' := (1 : Int)) (y' := ((ρ 0))) (by show 1 + 0 = _; omega) (by show 0 + (1 * ρ 0 + 0) = _; omega) (hm _ List.mem_cons_self)) (cvp 270 (x' := (64 * (ρ 0))) (y' := (64 * (ρ 1) + (ρ 2) + 1048576)) (by show 0 + (64 * ρ 0 + 0) = _; omega) (by show 1048576 + (64 * ρ 1 + (1 * ρ 2 + 0)) = _; omega) (hm _ (List.mem_cons_of_mem _ List.mem_cons_self))) hG
  obtain ⟨k0, -⟩ := H
  exact ⟨_, List.mem_cons_self, ρ, fun _ _ => rfl, (okM_c (pvp 276 (by show 2 + 0 = _; omega) (by show 0 + (1 * ρ 1 + 0) = _; omega) k0) okM_n), okB_n, okF_n⟩
-- lrs0
theorem cr_308 (M : pM) (s0 s1 : Int) (b0 : 0 ≤ s0 ∧ s0 ≤ 1900) (b1 : (-1) ≤ s1 ∧ s1 ≤ 600000) (m0 : HP 276 (2 : Int) (s0) M) (m1 : HP 47 (s0) (s1) M) (f0 : 0 ≤ ((-1) * s1 + 524346)) (hG : gI M) : (HP 275 (0 : Int) (s0) M ∧ True) := by
  obtain ⟨z, _⟩ | ⟨_, q0, v0, e0, k0⟩ | ⟨z, _⟩ := Eq.mp hp_276 m0
  · omega
  rotate_left
  · omega
  have e1 : q0 = s0.toNat := by omega
  subst e1
  have k1 := (q47 m1).2
  exact ⟨Eq.mpr hp_275 (Or.inr (Or.inr ⟨_, v0, k0, Or.inl ⟨by omega, by omega⟩⟩)), trivial⟩
theorem rul_308 : Rul r_308 := by
  refine ⟨fun _ ρ M hm hB hF hG => ?_, fun gi gv hg => (by cases hg)⟩
  have H := cr_308 M (ρ 0) (ρ 1) (hB _ List.mem_cons_self) (hB _ (List.mem_cons_of_mem _ List.mem_cons_self)) (cvp 276 (x' := (2 : Int)) (y' := ((ρ 0))) (by show 2 + 0 = _; omega) (by show 0 + (1 * ρ 0 + 0) = _; omega) (hm _ List.mem_cons_self)) (cvp 47 (x' := ((ρ 0))) (y' := ((ρ 1))) (by show 0 + (1 * ρ 0 + 0) = _; omega) (by show 0 + (1 * ρ 1 + 0) = _; omega) (hm _ (List.mem_cons_of_mem _ List.mem_cons_self))) (by have h := hF _ List.mem_cons_self; have h : 0 ≤ 524346 + ((-1) * ρ 1 + 0) := h; omega) hG
  obtain ⟨k0, -⟩ := H
  exact ⟨_, List.mem_cons_self, ρ, fun _ _ => rfl, (okM_c (pvp 275 (by show 0 + 0 = _; omega) (by show 0 + (1 * ρ 0 + 0) = _; omega) k0) okM_n), okB_n, okF_n⟩
-- lrs1
theorem cr_309 (M : pM) (s0 s1 : Int) (b0 : 0 ≤ s0 ∧ s0 ≤ 1900) (b1 : (-1) ≤ s1 ∧ s1 ≤ 600000) (m0 : HP 276 (2 : Int) (s0) M) (m1 : HP 47 (s0) (s1) M) (f0 : 0 ≤ (s1 - 524348)) (hG : gI M) : (HP 275 (0 : Int) (s0) M ∧ True) := by
  obtain ⟨z, _⟩ | ⟨_, q0, v0, e0, k0⟩ | ⟨z, _⟩ := Eq.mp hp_276 m0
  · omega
  rotate_left
  · omega
  have e1 : q0 = s0.toNat := by omega
  subst e1
  have k1 := (q47 m1).2
  exact ⟨Eq.mpr hp_275 (Or.inr (Or.inr ⟨_, v0, k0, Or.inl ⟨by omega, by omega⟩⟩)), trivial⟩
theorem rul_309 : Rul r_309 := by
  refine ⟨fun _ ρ M hm hB hF hG => ?_, fun gi gv hg => (by cases hg)⟩
  have H := cr_309 M (ρ 0) (ρ 1) (hB _ List.mem_cons_self) (hB _ (List.mem_cons_of_mem _ List.mem_cons_self)) (cvp 276 (x' := (2 : Int)) (y' := ((ρ 0))) (by show 2 + 0 = _; omega) (by show 0 + (1 * ρ 0 + 0) = _; omega) (hm _ List.mem_cons_self)) (cvp 47 (x' := ((ρ 0))) (y' := ((ρ 1))) (by show 0 + (1 * ρ 0 + 0) = _; omega) (by show 0 + (1 * ρ 1 + 0) = _; omega) (hm _ (List.mem_cons_of_mem _ List.mem_cons_self))) (by have h := hF _ List.mem_cons_self; have h : 0 ≤ (-524348) + (1 * ρ 1 + 0) := h; omega) hG
  obtain ⟨k0, -⟩ := H
  exact ⟨_, List.mem_cons_self, ρ, fun _ _ => rfl, (okM_c (pvp 275 (by show 0 + 0 = _; omega) (by show 0 + (1 * ρ 0 + 0) = _; omega) k0) okM_n), okB_n, okF_n⟩
-- lr3
theorem cr_310 (M : pM) (s0 s1 : Int) (b0 : 0 ≤ s0 ∧ s0 ≤ 1900) (b1 : 0 ≤ s1 ∧ s1 ≤ 1900) (m0 : HP 276 (2 : Int) (s0) M) (m1 : HP 47 (s0) (524347 : Int) M) (m2 : HP 46 (s0) (s1) M) (hG : gI M) : (HP 276 (3 : Int) (s1) M ∧ True) := by
  obtain ⟨z, _⟩ | ⟨_, q0, v0, e0, k0⟩ | ⟨z, _⟩ := Eq.mp hp_276 m0
  · omega
  rotate_left
  · omega
  have e1 : q0 = s0.toNat := by omega
  subst e1
  have k1 := (q47 m1).2
  exact ⟨Eq.mpr hp_276 (Or.inr (Or.inr ⟨rfl, _, v0, k0, k1, (q46 m2).2⟩)), trivial⟩
theorem rul_310 : Rul r_310 := by
  refine ⟨fun _ ρ M hm hB hF hG => ?_, fun gi gv hg => (by cases hg)⟩
  have H := cr_310 M (ρ 0) (ρ 1) (hB _ List.mem_cons_self) (hB _ (List.mem_cons_of_mem _ List.mem_cons_self)) (cvp 276 (x' := (2 : Int)) (y' := ((ρ 0))) (by show 2 + 0 = _; omega) (by show 0 + (1 * ρ 0 + 0) = _; omega) (hm _ List.mem_cons_self)) (cvp 47 (x' := ((ρ 0))) (y' := (524347 : Int)) (by show 0 + (1 * ρ 0 + 0) = _; omega) (by show 524347 + 0 = _; omega) (hm _ (List.mem_cons_of_mem _ List.mem_cons_self))) (cvp 46 (x' := ((ρ 0))) (y' := ((ρ 1))) (by show 0 + (1 * ρ 0 + 0) = _; omega) (by show 0 + (1 * ρ 1 + 0) = _; omega) (hm _ (List.mem_cons_of_mem _ (List.mem_cons_of_mem _ List.mem_cons_self)))) hG
  obtain ⟨k0, -⟩ := H
  exact ⟨_, List.mem_cons_self, ρ, fun _ _ => rfl, (okM_c (pvp 276 (by show 3 + 0 = _; omega) (by show 0 + (1 * ρ 1 + 0) = _; omega) k0) okM_n), okB_n, okF_n⟩
-- lrt0
theorem cr_311 (M : pM) (s0 s1 : Int) (b0 : 0 ≤ s0 ∧ s0 ≤ 1900) (b1 : (-1) ≤ s1 ∧ s1 ≤ 600000) (m0 : HP 276 (3 : Int) (s0) M) (m1 : HP 47 (s0) (s1) M) (f0 : 0 ≤ ((-1) * s1 + 131070)) (hG : gI M) : (HP 275 (0 : Int) (s0) M ∧ True) := by
  obtain ⟨z, _⟩ | ⟨z, _⟩ | ⟨_, q0, v0, k0, k1, e0⟩ := Eq.mp hp_276 m0
  · omega
  · omega
  have k2 : tK (tm M) s0.toNat = _ := (q47 m1).2
  rw [show s0.toNat = tE (tm M) q0 by omega] at k2
  exact ⟨Eq.mpr hp_275 (Or.inr (Or.inr ⟨q0, v0, k0, Or.inr ⟨k1, by omega, e0⟩⟩)), trivial⟩
theorem rul_311 : Rul r_311 := by
  refine ⟨fun _ ρ M hm hB hF hG => ?_, fun gi gv hg => (by cases hg)⟩
  have H := cr_311 M (ρ 0) (ρ 1) (hB _ List.mem_cons_self) (hB _ (List.mem_cons_of_mem _ List.mem_cons_self)) (cvp 276 (x' := (3 : Int)) (y' := ((ρ 0))) (by show 3 + 0 = _; omega) (by show 0 + (1 * ρ 0 + 0) = _; omega) (hm _ List.mem_cons_self)) (cvp 47 (x' := ((ρ 0))) (y' := ((ρ 1))) (by show 0 + (1 * ρ 0 + 0) = _; omega) (by show 0 + (1 * ρ 1 + 0) = _; omega) (hm _ (List.mem_cons_of_mem _ List.mem_cons_self))) (by have h := hF _ List.mem_cons_self; have h : 0 ≤ 131070 + ((-1) * ρ 1 + 0) := h; omega) hG
  obtain ⟨k0, -⟩ := H
  exact ⟨_, List.mem_cons_self, ρ, fun _ _ => rfl, (okM_c (pvp 275 (by show 0 + 0 = _; omega) (by show 0 + (1 * ρ 0 + 0) = _; omega) k0) okM_n), okB_n, okF_n⟩
-- lrt1
theorem cr_312 (M : pM) (s0 s1 : Int) (b0 : 0 ≤ s0 ∧ s0 ≤ 1900) (b1 : (-1) ≤ s1 ∧ s1 ≤ 600000) (m0 : HP 276 (3 : Int) (s0) M) (m1 : HP 47 (s0) (s1) M) (f0 : 0 ≤ (s1 - 131072)) (hG : gI M) : (HP 275 (0 : Int) (s0) M ∧ True) := by
  obtain ⟨z, _⟩ | ⟨z, _⟩ | ⟨_, q0, v0, k0, k1, e0⟩ := Eq.mp hp_276 m0
  · omega
  · omega
  have k2 : tK (tm M) s0.toNat = _ := (q47 m1).2
  rw [show s0.toNat = tE (tm M) q0 by omega] at k2
  exact ⟨Eq.mpr hp_275 (Or.inr (Or.inr ⟨q0, v0, k0, Or.inr ⟨k1, by omega, e0⟩⟩)), trivial⟩
theorem rul_312 : Rul r_312 := by
  refine ⟨fun _ ρ M hm hB hF hG => ?_, fun gi gv hg => (by cases hg)⟩
  have H := cr_312 M (ρ 0) (ρ 1) (hB _ List.mem_cons_self) (hB _ (List.mem_cons_of_mem _ List.mem_cons_self)) (cvp 276 (x' := (3 : Int)) (y' := ((ρ 0))) (by show 3 + 0 = _; omega) (by show 0 + (1 * ρ 0 + 0) = _; omega) (hm _ List.mem_cons_self)) (cvp 47 (x' := ((ρ 0))) (y' := ((ρ 1))) (by show 0 + (1 * ρ 0 + 0) = _; omega) (by show 0 + (1 * ρ 1 + 0) = _; omega) (hm _ (List.mem_cons_of_mem _ List.mem_cons_self))) (by have h := hF _ List.mem_cons_self; have h : 0 ≤ (-131072) + (1 * ρ 1 + 0) := h; omega) hG
  obtain ⟨k0, -⟩ := H
  exact ⟨_, List.mem_cons_self, ρ, fun _ _ => rfl, (okM_c (pvp 275 (by show 0 + 0 = _; omega) (by show 0 + (1 * ρ 0 + 0) = _; omega) k0) okM_n), okB_n, okF_n⟩
-- lro
theorem cr_313 (M : pM) (s0 s1 : Int) (b0 : 0 ≤ s0 ∧ s0 ≤ 1900) (b1 : 131071 ≤ s1 ∧ s1 ≤ 131071) (m0 : HP 276 (3 : Int) (s0) M) (m1 : HP 47 (s0) (s1) M) (hG : gI M) : (HP 274 (0 : Int) (0 : Int) M ∧ True) := by
  obtain ⟨z, _⟩ | ⟨z, _⟩ | ⟨_, q0, v0, k0, k1, e0⟩ := Eq.mp hp_276 m0
  · omega
  · omega
  have k2 : tK (tm M) s0.toNat = _ := (q47 m1).2
  rw [show s0.toNat = tE (tm M) q0 by omega] at k2
  exact ⟨Eq.mpr hp_274 ⟨q0, v0, k0, k1, by omega⟩, trivial⟩
theorem rul_313 : Rul r_313 := by
  refine ⟨fun _ ρ M hm hB hF hG => ?_, fun gi gv hg => (by cases hg)⟩
  have H := cr_313 M (ρ 0) (ρ 1) (hB _ List.mem_cons_self) (hB _ (List.mem_cons_of_mem _ List.mem_cons_self)) (cvp 276 (x' := (3 : Int)) (y' := ((ρ 0))) (by show 3 + 0 = _; omega) (by show 0 + (1 * ρ 0 + 0) = _; omega) (hm _ List.mem_cons_self)) (cvp 47 (x' := ((ρ 0))) (y' := ((ρ 1))) (by show 0 + (1 * ρ 0 + 0) = _; omega) (by show 0 + (1 * ρ 1 + 0) = _; omega) (hm _ (List.mem_cons_of_mem _ List.mem_cons_self))) hG
  obtain ⟨k0, -⟩ := H
  exact ⟨_, List.mem_cons_self, ρ, fun _ _ => rfl, (okM_c (pvp 274 (by show 0 + 0 = _; omega) (by show 0 + 0 = _; omega) k0) okM_n), okB_n, okF_n⟩
-- rs0
theorem cr_314 (M : pM) (s0 s1 : Int) (b0 : 0 ≤ s0 ∧ s0 ≤ 1900) (b1 : 8 ≤ s1 ∧ s1 ≤ 8) (m0 : HP 276 (1 : Int) (s0) M) (m1 : (0 ≤ (0 : Int) ∧ M 111 (0 : Int).toNat = (s1))) (hG : gI M) : (HP 277 (64 * s0 + 131072) (1 : Int) M ∧ True) := by
  obtain ⟨_, k0, e0⟩ | ⟨z, _⟩ | ⟨z, _⟩ := Eq.mp hp_276 m0
  rotate_left
  · omega
  · omega
  have hw : M 111 0 = s1 := m1.2
  have h : RSm (tm M) [8] 1 (tE (tm M) 0) 0 0 := by
    rw [rsm_1]
    exact ⟨[(8, 0)], [], rfl, gLd_r⟩
  exact ⟨Eq.mpr hp_277 (rs_p 1 (tE (tm M) 0) 0 0 1 (by unfold rix; omega) (by omega) (by omega) (by omega) (by omega) (by omega) (by omega) (by omega) k0 (by show (M 111 0).toNat :: [] = [8]; rw [hw, show s1 = 8 by omega]; rfl) h), trivial⟩
theorem rul_314 : Rul r_314 := by
  refine ⟨fun _ ρ M hm hB hF hG => ?_, fun gi gv hg => (by cases hg)⟩
  have H := cr_314 M (ρ 0) (ρ 1) (hB _ List.mem_cons_self) (hB _ (List.mem_cons_of_mem _ List.mem_cons_self)) (cvp 276 (x' := (1 : Int)) (y' := ((ρ 0))) (by show 1 + 0 = _; omega) (by show 0 + (1 * ρ 0 + 0) = _; omega) (hm _ List.mem_cons_self)) (cvm (c := 111) (by decide) (x' := (0 : Int)) (y' := ((ρ 1))) (by show 0 + 0 = _; omega) (by show 0 + (1 * ρ 1 + 0) = _; omega) (hm _ (List.mem_cons_of_mem _ List.mem_cons_self))) hG
  obtain ⟨k0, -⟩ := H
  exact ⟨_, List.mem_cons_self, ρ, fun _ _ => rfl, (okM_c (pvp 277 (by show 131072 + (64 * ρ 0 + 0) = _; omega) (by show 1 + 0 = _; omega) k0) okM_n), okB_n, okF_n⟩
-- ntl
theorem cr_315 (M : pM) (s0 s1 s2 : Int) (b0 : 0 ≤ s0 ∧ s0 ≤ 1900) (b1 : 0 ≤ s1 ∧ s1 ≤ 1900) (b2 : 0 ≤ s2 ∧ s2 ≤ 1900) (m0 : HP 47 (s0) (262160 : Int) M) (m1 : HP 45 (s0) (s1) M) (m2 : HP 46 (s0) (s2) M) (hG : gI M) : (0 ≤ (s1 + (-1) * s2 + 3) ∧ 0 ≤ ((-1) * s1 + s2 - 3) ∧ True) := by
  obtain ⟨_, h2, _, h4, _⟩ := tk_wd (hby_tm hG) (p := s0.toNat) (by rw [(q47 m0).2]; omega) (by rw [(q47 m0).2]; omega)
  rw [(q47 m0).2] at h2
  have h3 := wid_16 (N := tm M) (s := tS (tm M) s0.toNat) (e := tE (tm M) s0.toNat) (by omega)
  have e1 := (q45 m1).2
  have e2 := (q46 m2).2
  exact ⟨by omega, by omega, trivial⟩
theorem rul_315 : Rul r_315 := by
  refine ⟨fun _ ρ M hm hB hF hG => ?_, fun gi gv hg => (by cases hg)⟩
  have H := cr_315 M (ρ 0) (ρ 1) (ρ 2) (hB _ List.mem_cons_self) (hB _ (List.mem_cons_of_mem _ List.mem_cons_self)) (hB _ (List.mem_cons_of_mem _ (List.mem_cons_of_mem _ List.mem_cons_self))) (cvp 47 (x' := ((ρ 0))) (y' := (262160 : Int)) (by show 0 + (1 * ρ 0 + 0) = _; omega) (by show 262160 + 0 = _; omega) (hm _ List.mem_cons_self)) (cvp 45 (x' := ((ρ 0))) (y' := ((ρ 1))) (by show 0 + (1 * ρ 0 + 0) = _; omega) (by show 0 + (1 * ρ 1 + 0) = _; omega) (hm _ (List.mem_cons_of_mem _ List.mem_cons_self))) (cvp 46 (x' := ((ρ 0))) (y' := ((ρ 2))) (by show 0 + (1 * ρ 0 + 0) = _; omega) (by show 0 + (1 * ρ 2 + 0) = _; omega) (hm _ (List.mem_cons_of_mem _ (List.mem_cons_of_mem _ List.mem_cons_self)))) hG
  obtain ⟨f0, f1, -⟩ := H
  exact ⟨_, List.mem_cons_self, ρ, fun _ _ => rfl, okM_n, okB_n, (okF_c (by show 0 ≤ 3 + (1 * ρ 1 + ((-1) * ρ 2 + 0)); omega) (okF_c (by show 0 ≤ (-3) + ((-1) * ρ 1 + (1 * ρ 2 + 0)); omega) okF_n))⟩
-- run_0
theorem cr_316 (M : pM) (s0 s1 s2 s3 s4 : Int) (b0 : 0 ≤ s0 ∧ s0 ≤ 1900) (b1 : 0 ≤ s1 ∧ s1 ≤ 60) (b2 : 0 ≤ s2 ∧ s2 ≤ 7) (b3 : 1 ≤ s3 ∧ s3 ≤ 80) (b4 : 0 ≤ s4 ∧ s4 ≤ 8) (m0 : HP 277 (64 * s0 + s1 + 131072) (128 * s2 + s3) M) (m1 : HP 47 (s0) (262160 : Int) M) (m2 : (0 ≤ (s3 - 1) ∧ M 111 (s3 - 1).toNat = (s4))) (f0 : 0 ≤ ((-1) * s4 + 3)) (f1 : 0 ≤ ((-1) * s2 + 6)) (hG : gI M) : (HP 277 (64 * s0 + s1 + 1572864) (128 * s2 + s3 + 128) M ∧ True) := by
  obtain ⟨k0, l1, h⟩ := rs_g (Eq.mp hp_277 m0) 1 s0.toNat s1.toNat s2.toNat s3.toNat (by unfold rix; omega) (by omega) (by omega) (by omega) (by omega)
  have hw : M 111 (s3.toNat - 1) = ((s4.toNat : Nat) : Int) := by
    rw [show s3.toNat - 1 = (s3 - 1).toNat by omega, m2.2]
    omega
  have hK := prow_s l1 hw
  rw [hK] at h
  have k : ltt (tm M) s0.toNat = 3 := by
    unfold ltt
    rw [show tK (tm M) s0.toNat = _ from (q47 m1).2]
    unfold lty
    (repeat' split) <;> omega
  exact ⟨Eq.mpr hp_277 (rs_p (9 + 3) s0.toNat s1.toNat (s2.toNat + 1) s3.toNat (by unfold rix; omega) (by omega) (by omega) (by omega) (by omega) (by omega) (by omega) (by omega) k0 hK (rm_un h k (by omega) (by omega))), trivial⟩
theorem rul_316 : Rul r_316 := by
  refine ⟨fun _ ρ M hm hB hF hG => ?_, fun gi gv hg => (by cases hg)⟩
  have H := cr_316 M (ρ 0) (ρ 1) (ρ 2) (ρ 3) (ρ 4) (hB _ List.mem_cons_self) (hB _ (List.mem_cons_of_mem _ List.mem_cons_self)) (hB _ (List.mem_cons_of_mem _ (List.mem_cons_of_mem _ List.mem_cons_self))) (hB _ (List.mem_cons_of_mem _ (List.mem_cons_of_mem _ (List.mem_cons_of_mem _ List.mem_cons_self)))) (hB _ (List.mem_cons_of_mem _ (List.mem_cons_of_mem _ (List.mem_cons_of_mem _ (List.mem_cons_of_mem _ List.mem_cons_self))))) (cvp 277 (x' := (64 * (ρ 0) + (ρ 1) + 131072)) (y' := (128 * (ρ 2) + (ρ 3))) (by show 131072 + (64 * ρ 0 + (1 * ρ 1 + 0)) = _; omega) (by show 0 + (128 * ρ 2 + (1 * ρ 3 + 0)) = _; omega) (hm _ List.mem_cons_self)) (cvp 47 (x' := ((ρ 0))) (y' := (262160 : Int)) (by show 0 + (1 * ρ 0 + 0) = _; omega) (by show 262160 + 0 = _; omega) (hm _ (List.mem_cons_of_mem _ List.mem_cons_self))) (cvm (c := 111) (by decide) (x' := ((ρ 3) - 1)) (y' := ((ρ 4))) (by show (-1) + (1 * ρ 3 + 0) = _; omega) (by show 0 + (1 * ρ 4 + 0) = _; omega) (hm _ (List.mem_cons_of_mem _ (List.mem_cons_of_mem _ List.mem_cons_self)))) (by have h := hF _ List.mem_cons_self; have h : 0 ≤ 3 + ((-1) * ρ 4 + 0) := h; omega) (by have h := hF _ (List.mem_cons_of_mem _ List.mem_cons_self); have h : 0 ≤ 6 + ((-1) * ρ 2 + 0) := h; omega) hG
  obtain ⟨k0, -⟩ := H
  exact ⟨_, List.mem_cons_self, ρ, fun _ _ => rfl, (okM_c (pvp 277 (by show 1572864 + (64 * ρ 0 + (1 * ρ 1 + 0)) = _; omega) (by show 128 + (128 * ρ 2 + (1 * ρ 3 + 0)) = _; omega) k0) okM_n), okB_n, okF_n⟩
-- rud_0
theorem cr_317 (M : pM) (s0 s1 s2 s3 s4 : Int) (b0 : 0 ≤ s0 ∧ s0 ≤ 1900) (b1 : 0 ≤ s1 ∧ s1 ≤ 60) (b2 : 0 ≤ s2 ∧ s2 ≤ 7) (b3 : 1 ≤ s3 ∧ s3 ≤ 80) (b4 : 0 ≤ s4 ∧ s4 ≤ 8) (m0 : HP 277 (64 * s0 + s1 + 131072) (128 * s2 + s3) M) (m1 : HP 47 (s0) (262160 : Int) M) (m2 : (0 ≤ (s3 - 1) ∧ M 111 (s3 - 1).toNat = (s4))) (f0 : 0 ≤ ((-1) * s4 + 3)) (f1 : 0 ≤ (s2 - 7)) (hG : gI M) : (HP 280 (0 : Int) (s0) M ∧ True) := by
  obtain ⟨k0, l1, h⟩ := rs_g (Eq.mp hp_277 m0) 1 s0.toNat s1.toNat s2.toNat s3.toNat (by unfold rix; omega) (by omega) (by omega) (by omega) (by omega)
  have hw : M 111 (s3.toNat - 1) = ((s4.toNat : Nat) : Int) := by
    rw [show s3.toNat - 1 = (s3 - 1).toNat by omega, m2.2]
    omega
  have hK := prow_s l1 hw
  rw [hK] at h
  have k : ltt (tm M) s0.toNat = 3 := by
    unfold ltt
    rw [show tK (tm M) s0.toNat = _ from (q47 m1).2]
    unfold lty
    (repeat' split) <;> omega
  exact ⟨Eq.mpr hp_280 (Or.inr (Or.inl ⟨k0, s0.toNat, by omega, rm_ud h k (by omega) (by omega)⟩)), trivial⟩
theorem rul_317 : Rul r_317 := by
  refine ⟨fun _ ρ M hm hB hF hG => ?_, fun gi gv hg => (by cases hg)⟩
  have H := cr_317 M (ρ 0) (ρ 1) (ρ 2) (ρ 3) (ρ 4) (hB _ List.mem_cons_self) (hB _ (List.mem_cons_of_mem _ List.mem_cons_self)) (hB _ (List.mem_cons_of_mem _ (List.mem_cons_of_mem _ List.mem_cons_self))) (hB _ (List.mem_cons_of_mem _ (List.mem_cons_of_mem _ (List.mem_cons_of_mem _ List.mem_cons_self)))) (hB _ (List.mem_cons_of_mem _ (List.mem_cons_of_mem _ (List.mem_cons_of_mem _ (List.mem_cons_of_mem _ List.mem_cons_self))))) (cvp 277 (x' := (64 * (ρ 0) + (ρ 1) + 131072)) (y' := (128 * (ρ 2) + (ρ 3))) (by show 131072 + (64 * ρ 0 + (1 * ρ 1 + 0)) = _; omega) (by show 0 + (128 * ρ 2 + (1 * ρ 3 + 0)) = _; omega) (hm _ List.mem_cons_self)) (cvp 47 (x' := ((ρ 0))) (y' := (262160 : Int)) (by show 0 + (1 * ρ 0 + 0) = _; omega) (by show 262160 + 0 = _; omega) (hm _ (List.mem_cons_of_mem _ List.mem_cons_self))) (cvm (c := 111) (by decide) (x' := ((ρ 3) - 1)) (y' := ((ρ 4))) (by show (-1) + (1 * ρ 3 + 0) = _; omega) (by show 0 + (1 * ρ 4 + 0) = _; omega) (hm _ (List.mem_cons_of_mem _ (List.mem_cons_of_mem _ List.mem_cons_self)))) (by have h := hF _ List.mem_cons_self; have h : 0 ≤ 3 + ((-1) * ρ 4 + 0) := h; omega) (by have h := hF _ (List.mem_cons_of_mem _ List.mem_cons_self); have h : 0 ≤ (-7) + (1 * ρ 2 + 0) := h; omega) hG
  obtain ⟨k0, -⟩ := H
  exact ⟨_, List.mem_cons_self, ρ, fun _ _ => rfl, (okM_c (pvp 280 (by show 0 + 0 = _; omega) (by show 0 + (1 * ρ 0 + 0) = _; omega) k0) okM_n), okB_n, okF_n⟩
-- run_1
theorem cr_318 (M : pM) (s0 s1 s2 s3 s4 : Int) (b0 : 0 ≤ s0 ∧ s0 ≤ 1900) (b1 : 0 ≤ s1 ∧ s1 ≤ 60) (b2 : 0 ≤ s2 ∧ s2 ≤ 7) (b3 : 1 ≤ s3 ∧ s3 ≤ 80) (b4 : 0 ≤ s4 ∧ s4 ≤ 8) (m0 : HP 277 (64 * s0 + s1 + 131072) (128 * s2 + s3) M) (m1 : HP 47 (s0) (262160 : Int) M) (m2 : (0 ≤ (s3 - 1) ∧ M 111 (s3 - 1).toNat = (s4))) (f0 : 0 ≤ (s4 - 7)) (f1 : 0 ≤ ((-1) * s2 + 6)) (hG : gI M) : (HP 277 (64 * s0 + s1 + 1572864) (128 * s2 + s3 + 128) M ∧ True) := by
  obtain ⟨k0, l1, h⟩ := rs_g (Eq.mp hp_277 m0) 1 s0.toNat s1.toNat s2.toNat s3.toNat (by unfold rix; omega) (by omega) (by omega) (by omega) (by omega)
  have hw : M 111 (s3.toNat - 1) = ((s4.toNat : Nat) : Int) := by
    rw [show s3.toNat - 1 = (s3 - 1).toNat by omega, m2.2]
    omega
  have hK := prow_s l1 hw
  rw [hK] at h
  have k : ltt (tm M) s0.toNat = 3 := by
    unfold ltt
    rw [show tK (tm M) s0.toNat = _ from (q47 m1).2]
    unfold lty
    (repeat' split) <;> omega
  exact ⟨Eq.mpr hp_277 (rs_p (9 + 3) s0.toNat s1.toNat (s2.toNat + 1) s3.toNat (by unfold rix; omega) (by omega) (by omega) (by omega) (by omega) (by omega) (by omega) (by omega) k0 hK (rm_un h k (by omega) (by omega))), trivial⟩
theorem rul_318 : Rul r_318 := by
  refine ⟨fun _ ρ M hm hB hF hG => ?_, fun gi gv hg => (by cases hg)⟩
  have H := cr_318 M (ρ 0) (ρ 1) (ρ 2) (ρ 3) (ρ 4) (hB _ List.mem_cons_self) (hB _ (List.mem_cons_of_mem _ List.mem_cons_self)) (hB _ (List.mem_cons_of_mem _ (List.mem_cons_of_mem _ List.mem_cons_self))) (hB _ (List.mem_cons_of_mem _ (List.mem_cons_of_mem _ (List.mem_cons_of_mem _ List.mem_cons_self)))) (hB _ (List.mem_cons_of_mem _ (List.mem_cons_of_mem _ (List.mem_cons_of_mem _ (List.mem_cons_of_mem _ List.mem_cons_self))))) (cvp 277 (x' := (64 * (ρ 0) + (ρ 1) + 131072)) (y' := (128 * (ρ 2) + (ρ 3))) (by show 131072 + (64 * ρ 0 + (1 * ρ 1 + 0)) = _; omega) (by show 0 + (128 * ρ 2 + (1 * ρ 3 + 0)) = _; omega) (hm _ List.mem_cons_self)) (cvp 47 (x' := ((ρ 0))) (y' := (262160 : Int)) (by show 0 + (1 * ρ 0 + 0) = _; omega) (by show 262160 + 0 = _; omega) (hm _ (List.mem_cons_of_mem _ List.mem_cons_self))) (cvm (c := 111) (by decide) (x' := ((ρ 3) - 1)) (y' := ((ρ 4))) (by show (-1) + (1 * ρ 3 + 0) = _; omega) (by show 0 + (1 * ρ 4 + 0) = _; omega) (hm _ (List.mem_cons_of_mem _ (List.mem_cons_of_mem _ List.mem_cons_self)))) (by have h := hF _ List.mem_cons_self; have h : 0 ≤ (-7) + (1 * ρ 4 + 0) := h; omega) (by have h := hF _ (List.mem_cons_of_mem _ List.mem_cons_self); have h : 0 ≤ 6 + ((-1) * ρ 2 + 0) := h; omega) hG
  obtain ⟨k0, -⟩ := H
  exact ⟨_, List.mem_cons_self, ρ, fun _ _ => rfl, (okM_c (pvp 277 (by show 1572864 + (64 * ρ 0 + (1 * ρ 1 + 0)) = _; omega) (by show 128 + (128 * ρ 2 + (1 * ρ 3 + 0)) = _; omega) k0) okM_n), okB_n, okF_n⟩
-- rud_1
theorem cr_319 (M : pM) (s0 s1 s2 s3 s4 : Int) (b0 : 0 ≤ s0 ∧ s0 ≤ 1900) (b1 : 0 ≤ s1 ∧ s1 ≤ 60) (b2 : 0 ≤ s2 ∧ s2 ≤ 7) (b3 : 1 ≤ s3 ∧ s3 ≤ 80) (b4 : 0 ≤ s4 ∧ s4 ≤ 8) (m0 : HP 277 (64 * s0 + s1 + 131072) (128 * s2 + s3) M) (m1 : HP 47 (s0) (262160 : Int) M) (m2 : (0 ≤ (s3 - 1) ∧ M 111 (s3 - 1).toNat = (s4))) (f0 : 0 ≤ (s4 - 7)) (f1 : 0 ≤ (s2 - 7)) (hG : gI M) : (HP 280 (0 : Int) (s0) M ∧ True) := by
  obtain ⟨k0, l1, h⟩ := rs_g (Eq.mp hp_277 m0) 1 s0.toNat s1.toNat s2.toNat s3.toNat (by unfold rix; omega) (by omega) (by omega) (by omega) (by omega)
  have hw : M 111 (s3.toNat - 1) = ((s4.toNat : Nat) : Int) := by
    rw [show s3.toNat - 1 = (s3 - 1).toNat by omega, m2.2]
    omega
  have hK := prow_s l1 hw
  rw [hK] at h
  have k : ltt (tm M) s0.toNat = 3 := by
    unfold ltt
    rw [show tK (tm M) s0.toNat = _ from (q47 m1).2]
    unfold lty
    (repeat' split) <;> omega
  exact ⟨Eq.mpr hp_280 (Or.inr (Or.inl ⟨k0, s0.toNat, by omega, rm_ud h k (by omega) (by omega)⟩)), trivial⟩
theorem rul_319 : Rul r_319 := by
  refine ⟨fun _ ρ M hm hB hF hG => ?_, fun gi gv hg => (by cases hg)⟩
  have H := cr_319 M (ρ 0) (ρ 1) (ρ 2) (ρ 3) (ρ 4) (hB _ List.mem_cons_self) (hB _ (List.mem_cons_of_mem _ List.mem_cons_self)) (hB _ (List.mem_cons_of_mem _ (List.mem_cons_of_mem _ List.mem_cons_self))) (hB _ (List.mem_cons_of_mem _ (List.mem_cons_of_mem _ (List.mem_cons_of_mem _ List.mem_cons_self)))) (hB _ (List.mem_cons_of_mem _ (List.mem_cons_of_mem _ (List.mem_cons_of_mem _ (List.mem_cons_of_mem _ List.mem_cons_self))))) (cvp 277 (x' := (64 * (ρ 0) + (ρ 1) + 131072)) (y' := (128 * (ρ 2) + (ρ 3))) (by show 131072 + (64 * ρ 0 + (1 * ρ 1 + 0)) = _; omega) (by show 0 + (128 * ρ 2 + (1 * ρ 3 + 0)) = _; omega) (hm _ List.mem_cons_self)) (cvp 47 (x' := ((ρ 0))) (y' := (262160 : Int)) (by show 0 + (1 * ρ 0 + 0) = _; omega) (by show 262160 + 0 = _; omega) (hm _ (List.mem_cons_of_mem _ List.mem_cons_self))) (cvm (c := 111) (by decide) (x' := ((ρ 3) - 1)) (y' := ((ρ 4))) (by show (-1) + (1 * ρ 3 + 0) = _; omega) (by show 0 + (1 * ρ 4 + 0) = _; omega) (hm _ (List.mem_cons_of_mem _ (List.mem_cons_of_mem _ List.mem_cons_self)))) (by have h := hF _ List.mem_cons_self; have h : 0 ≤ (-7) + (1 * ρ 4 + 0) := h; omega) (by have h := hF _ (List.mem_cons_of_mem _ List.mem_cons_self); have h : 0 ≤ (-7) + (1 * ρ 2 + 0) := h; omega) hG
  obtain ⟨k0, -⟩ := H
  exact ⟨_, List.mem_cons_self, ρ, fun _ _ => rfl, (okM_c (pvp 280 (by show 0 + 0 = _; omega) (by show 0 + (1 * ρ 0 + 0) = _; omega) k0) okM_n), okB_n, okF_n⟩
-- rub
theorem cr_320 (M : pM) (s0 s1 s2 s3 : Int) (b0 : 0 ≤ s0 ∧ s0 ≤ 1900) (b1 : 0 ≤ s1 ∧ s1 ≤ 60) (b2 : 0 ≤ s2 ∧ s2 ≤ 7) (b3 : 1 ≤ s3 ∧ s3 ≤ 80) (m0 : HP 277 (64 * s0 + s1 + 131072) (128 * s2 + s3) M) (m1 : HP 47 (s0) (524328 : Int) M) (f0 : 0 ≤ ((-1) * s1 + 59)) (f1 : 0 ≤ ((-1) * s2 + 6)) (hG : gI M) : (HP 277 (64 * s0 + s1 + 2097153) (128 * s2 + s3 + 128) M ∧ True) := by
  obtain ⟨k0, l1, h⟩ := rs_g (Eq.mp hp_277 m0) 1 s0.toNat s1.toNat s2.toNat s3.toNat (by unfold rix; omega) (by omega) (by omega) (by omega) (by omega)
  have hK := prow_1 (M := M) l1
  rw [hK] at h
  have k : ltt (tm M) s0.toNat = 7 := by
    unfold ltt
    rw [show tK (tm M) s0.toNat = _ from (q47 m1).2]
    unfold lty
    (repeat' split) <;> omega
  exact ⟨Eq.mpr hp_277 (rs_p (9 + 7) s0.toNat (s1.toNat + 1) (s2.toNat + 1) s3.toNat (by unfold rix; omega) (by omega) (by omega) (by omega) (by omega) (by omega) (by omega) (by omega) k0 hK (rm_ub h k (by omega) (by omega))), trivial⟩
theorem rul_320 : Rul r_320 := by
  refine ⟨fun _ ρ M hm hB hF hG => ?_, fun gi gv hg => (by cases hg)⟩
  have H := cr_320 M (ρ 0) (ρ 1) (ρ 2) (ρ 3) (hB _ List.mem_cons_self) (hB _ (List.mem_cons_of_mem _ List.mem_cons_self)) (hB _ (List.mem_cons_of_mem _ (List.mem_cons_of_mem _ List.mem_cons_self))) (hB _ (List.mem_cons_of_mem _ (List.mem_cons_of_mem _ (List.mem_cons_of_mem _ List.mem_cons_self)))) (cvp 277 (x' := (64 * (ρ 0) + (ρ 1) + 131072)) (y' := (128 * (ρ 2) + (ρ 3))) (by show 131072 + (64 * ρ 0 + (1 * ρ 1 + 0)) = _; omega) (by show 0 + (128 * ρ 2 + (1 * ρ 3 + 0)) = _; omega) (hm _ List.mem_cons_self)) (cvp 47 (x' := ((ρ 0))) (y' := (524328 : Int)) (by show 0 + (1 * ρ 0 + 0) = _; omega) (by show 524328 + 0 = _; omega) (hm _ (List.mem_cons_of_mem _ List.mem_cons_self))) (by have h := hF _ List.mem_cons_self; have h : 0 ≤ 59 + ((-1) * ρ 1 + 0) := h; omega) (by have h := hF _ (List.mem_cons_of_mem _ List.mem_cons_self); have h : 0 ≤ 6 + ((-1) * ρ 2 + 0) := h; omega) hG
  obtain ⟨k0, -⟩ := H
  exact ⟨_, List.mem_cons_self, ρ, fun _ _ => rfl, (okM_c (pvp 277 (by show 2097153 + (64 * ρ 0 + (1 * ρ 1 + 0)) = _; omega) (by show 128 + (128 * ρ 2 + (1 * ρ 3 + 0)) = _; omega) k0) okM_n), okB_n, okF_n⟩
-- ruc
theorem cr_321 (M : pM) (s0 s1 s2 s3 : Int) (b0 : 0 ≤ s0 ∧ s0 ≤ 1900) (b1 : 0 ≤ s1 ∧ s1 ≤ 60) (b2 : 0 ≤ s2 ∧ s2 ≤ 7) (b3 : 1 ≤ s3 ∧ s3 ≤ 80) (m0 : HP 277 (64 * s0 + s1 + 131072) (128 * s2 + s3) M) (m1 : HP 47 (s0) (524328 : Int) M) (f0 : 0 ≤ (s2 - 7)) (hG : gI M) : (HP 280 (0 : Int) (s0) M ∧ True) := by
  obtain ⟨k0, l1, h⟩ := rs_g (Eq.mp hp_277 m0) 1 s0.toNat s1.toNat s2.toNat s3.toNat (by unfold rix; omega) (by omega) (by omega) (by omega) (by omega)
  have hK := prow_1 (M := M) l1
  rw [hK] at h
  have k : ltt (tm M) s0.toNat = 7 := by
    unfold ltt
    rw [show tK (tm M) s0.toNat = _ from (q47 m1).2]
    unfold lty
    (repeat' split) <;> omega
  exact ⟨Eq.mpr hp_280 (Or.inr (Or.inl ⟨k0, s0.toNat, by omega, rm_uc h k (by omega)⟩)), trivial⟩
theorem rul_321 : Rul r_321 := by
  refine ⟨fun _ ρ M hm hB hF hG => ?_, fun gi gv hg => (by cases hg)⟩
  have H := cr_321 M (ρ 0) (ρ 1) (ρ 2) (ρ 3) (hB _ List.mem_cons_self) (hB _ (List.mem_cons_of_mem _ List.mem_cons_self)) (hB _ (List.mem_cons_of_mem _ (List.mem_cons_of_mem _ List.mem_cons_self))) (hB _ (List.mem_cons_of_mem _ (List.mem_cons_of_mem _ (List.mem_cons_of_mem _ List.mem_cons_self)))) (cvp 277 (x' := (64 * (ρ 0) + (ρ 1) + 131072)) (y' := (128 * (ρ 2) + (ρ 3))) (by show 131072 + (64 * ρ 0 + (1 * ρ 1 + 0)) = _; omega) (by show 0 + (128 * ρ 2 + (1 * ρ 3 + 0)) = _; omega) (hm _ List.mem_cons_self)) (cvp 47 (x' := ((ρ 0))) (y' := (524328 : Int)) (by show 0 + (1 * ρ 0 + 0) = _; omega) (by show 524328 + 0 = _; omega) (hm _ (List.mem_cons_of_mem _ List.mem_cons_self))) (by have h := hF _ List.mem_cons_self; have h : 0 ≤ (-7) + (1 * ρ 2 + 0) := h; omega) hG
  obtain ⟨k0, -⟩ := H
  exact ⟨_, List.mem_cons_self, ρ, fun _ _ => rfl, (okM_c (pvp 280 (by show 0 + 0 = _; omega) (by show 0 + (1 * ρ 0 + 0) = _; omega) k0) okM_n), okB_n, okF_n⟩
-- rua0
theorem cr_322 (M : pM) (s0 s1 s2 s3 s4 s5 : Int) (b0 : 0 ≤ s0 ∧ s0 ≤ 1900) (b1 : 0 ≤ s1 ∧ s1 ≤ 60) (b2 : 0 ≤ s2 ∧ s2 ≤ 7) (b3 : 1 ≤ s3 ∧ s3 ≤ 80) (b4 : (-1) ≤ s4 ∧ s4 ≤ 600000) (b5 : 0 ≤ s5 ∧ s5 ≤ 1900) (m0 : HP 277 (64 * s0 + s1 + 131072) (128 * s2 + s3) M) (m1 : HP 47 (s0) (s4) M) (m2 : HP 46 (s0) (s5) M) (f0 : 0 ≤ ((-1) * s1 + 59)) (f1 : 0 ≤ (s4 - 393216)) (f2 : 0 ≤ ((-1) * s4 + 403215)) (hG : gI M) : (HP 277 (s1 + 64 * s5 + 1) (128 * s2 + s3) M ∧ True) := by
  obtain ⟨k0, l1, h⟩ := rs_g (Eq.mp hp_277 m0) 1 s0.toNat s1.toNat s2.toNat s3.toNat (by unfold rix; omega) (by omega) (by omega) (by omega) (by omega)
  have hK := prow_1 (M := M) l1
  rw [hK] at h
  have k : ltt (tm M) s0.toNat = 9 := by
    unfold ltt
    rw [show tK (tm M) s0.toNat = _ from (q47 m1).2]
    unfold lty
    (repeat' split) <;> omega
  have e : tE (tm M) s0.toNat = s5.toNat := by
    have := (q46 m2).2
    omega
  exact ⟨Eq.mpr hp_277 (rs_p 0 (tE (tm M) s0.toNat) (s1.toNat + 1) s2.toNat s3.toNat (by unfold rix; omega) (by omega) (by omega) (by omega) (by omega) (by omega) (by omega) (by omega) k0 hK (rm_ua h k (by omega))), trivial⟩
theorem rul_322 : Rul r_322 := by
  refine ⟨fun _ ρ M hm hB hF hG => ?_, fun gi gv hg => (by cases hg)⟩
  have H := cr_322 M (ρ 0) (ρ 1) (ρ 2) (ρ 3) (ρ 4) (ρ 5) (hB _ List.mem_cons_self) (hB _ (List.mem_cons_of_mem _ List.mem_cons_self)) (hB _ (List.mem_cons_of_mem _ (List.mem_cons_of_mem _ List.mem_cons_self))) (hB _ (List.mem_cons_of_mem _ (List.mem_cons_of_mem _ (List.mem_cons_of_mem _ List.mem_cons_self)))) (hB _ (List.mem_cons_of_mem _ (List.mem_cons_of_mem _ (List.mem_cons_of_mem _ (List.mem_cons_of_mem _ List.mem_cons_self))))) (hB _ (List.mem_cons_of_mem _ (List.mem_cons_of_mem _ (List.mem_cons_of_mem _ (List.mem_cons_of_mem _ (List.mem_cons_of_mem _ List.mem_cons_self)))))) (cvp 277 (x' := (64 * (ρ 0) + (ρ 1) + 131072)) (y' := (128 * (ρ 2) + (ρ 3))) (by show 131072 + (64 * ρ 0 + (1 * ρ 1 + 0)) = _; omega) (by show 0 + (128 * ρ 2 + (1 * ρ 3 + 0)) = _; omega) (hm _ List.mem_cons_self)) (cvp 47 (x' := ((ρ 0))) (y' := ((ρ 4))) (by show 0 + (1 * ρ 0 + 0) = _; omega) (by show 0 + (1 * ρ 4 + 0) = _; omega) (hm _ (List.mem_cons_of_mem _ List.mem_cons_self))) (cvp 46 (x' := ((ρ 0))) (y' := ((ρ 5))) (by show 0 + (1 * ρ 0 + 0) = _; omega) (by show 0 + (1 * ρ 5 + 0) = _; omega) (hm _ (List.mem_cons_of_mem _ (List.mem_cons_of_mem _ List.mem_cons_self)))) (by have h := hF _ List.mem_cons_self; have h : 0 ≤ 59 + ((-1) * ρ 1 + 0) := h; omega) (by have h := hF _ (List.mem_cons_of_mem _ List.mem_cons_self); have h : 0 ≤ (-393216) + (1 * ρ 4 + 0) := h; omega) (by have h := hF _ (List.mem_cons_of_mem _ (List.mem_cons_of_mem _ List.mem_cons_self)); have h : 0 ≤ 403215 + ((-1) * ρ 4 + 0) := h; omega) hG
  obtain ⟨k0, -⟩ := H
  exact ⟨_, List.mem_cons_self, ρ, fun _ _ => rfl, (okM_c (pvp 277 (by show 1 + (1 * ρ 1 + (64 * ρ 5 + 0)) = _; omega) (by show 0 + (128 * ρ 2 + (1 * ρ 3 + 0)) = _; omega) k0) okM_n), okB_n, okF_n⟩
-- rua1
theorem cr_323 (M : pM) (s0 s1 s2 s3 s4 s5 : Int) (b0 : 0 ≤ s0 ∧ s0 ≤ 1900) (b1 : 0 ≤ s1 ∧ s1 ≤ 60) (b2 : 0 ≤ s2 ∧ s2 ≤ 7) (b3 : 1 ≤ s3 ∧ s3 ≤ 80) (b4 : (-1) ≤ s4 ∧ s4 ≤ 600000) (b5 : 0 ≤ s5 ∧ s5 ≤ 1900) (m0 : HP 277 (64 * s0 + s1 + 131072) (128 * s2 + s3) M) (m1 : HP 47 (s0) (s4) M) (m2 : HP 46 (s0) (s5) M) (f0 : 0 ≤ ((-1) * s1 + 59)) (f1 : 0 ≤ (s4 - 262156)) (f2 : 0 ≤ ((-1) * s4 + 262156)) (hG : gI M) : (HP 277 (s1 + 64 * s5 + 1) (128 * s2 + s3) M ∧ True) := by
  obtain ⟨k0, l1, h⟩ := rs_g (Eq.mp hp_277 m0) 1 s0.toNat s1.toNat s2.toNat s3.toNat (by unfold rix; omega) (by omega) (by omega) (by omega) (by omega)
  have hK := prow_1 (M := M) l1
  rw [hK] at h
  have k : ltt (tm M) s0.toNat = 9 := by
    unfold ltt
    rw [show tK (tm M) s0.toNat = _ from (q47 m1).2]
    unfold lty
    (repeat' split) <;> omega
  have e : tE (tm M) s0.toNat = s5.toNat := by
    have := (q46 m2).2
    omega
  exact ⟨Eq.mpr hp_277 (rs_p 0 (tE (tm M) s0.toNat) (s1.toNat + 1) s2.toNat s3.toNat (by unfold rix; omega) (by omega) (by omega) (by omega) (by omega) (by omega) (by omega) (by omega) k0 hK (rm_ua h k (by omega))), trivial⟩
theorem rul_323 : Rul r_323 := by
  refine ⟨fun _ ρ M hm hB hF hG => ?_, fun gi gv hg => (by cases hg)⟩
  have H := cr_323 M (ρ 0) (ρ 1) (ρ 2) (ρ 3) (ρ 4) (ρ 5) (hB _ List.mem_cons_self) (hB _ (List.mem_cons_of_mem _ List.mem_cons_self)) (hB _ (List.mem_cons_of_mem _ (List.mem_cons_of_mem _ List.mem_cons_self))) (hB _ (List.mem_cons_of_mem _ (List.mem_cons_of_mem _ (List.mem_cons_of_mem _ List.mem_cons_self)))) (hB _ (List.mem_cons_of_mem _ (List.mem_cons_of_mem _ (List.mem_cons_of_mem _ (List.mem_cons_of_mem _ List.mem_cons_self))))) (hB _ (List.mem_cons_of_mem _ (List.mem_cons_of_mem _ (List.mem_cons_of_mem _ (List.mem_cons_of_mem _ (List.mem_cons_of_mem _ List.mem_cons_self)))))) (cvp 277 (x' := (64 * (ρ 0) + (ρ 1) + 131072)) (y' := (128 * (ρ 2) + (ρ 3))) (by show 131072 + (64 * ρ 0 + (1 * ρ 1 + 0)) = _; omega) (by show 0 + (128 * ρ 2 + (1 * ρ 3 + 0)) = _; omega) (hm _ List.mem_cons_self)) (cvp 47 (x' := ((ρ 0))) (y' := ((ρ 4))) (by show 0 + (1 * ρ 0 + 0) = _; omega) (by show 0 + (1 * ρ 4 + 0) = _; omega) (hm _ (List.mem_cons_of_mem _ List.mem_cons_self))) (cvp 46 (x' := ((ρ 0))) (y' := ((ρ 5))) (by show 0 + (1 * ρ 0 + 0) = _; omega) (by show 0 + (1 * ρ 5 + 0) = _; omega) (hm _ (List.mem_cons_of_mem _ (List.mem_cons_of_mem _ List.mem_cons_self)))) (by have h := hF _ List.mem_cons_self; have h : 0 ≤ 59 + ((-1) * ρ 1 + 0) := h; omega) (by have h := hF _ (List.mem_cons_of_mem _ List.mem_cons_self); have h : 0 ≤ (-262156) + (1 * ρ 4 + 0) := h; omega) (by have h := hF _ (List.mem_cons_of_mem _ (List.mem_cons_of_mem _ List.mem_cons_self)); have h : 0 ≤ 262156 + ((-1) * ρ 4 + 0) := h; omega) hG
  obtain ⟨k0, -⟩ := H
  exact ⟨_, List.mem_cons_self, ρ, fun _ _ => rfl, (okM_c (pvp 277 (by show 1 + (1 * ρ 1 + (64 * ρ 5 + 0)) = _; omega) (by show 0 + (128 * ρ 2 + (1 * ρ 3 + 0)) = _; omega) k0) okM_n), okB_n, okF_n⟩
-- rua2
theorem cr_324 (M : pM) (s0 s1 s2 s3 s4 s5 : Int) (b0 : 0 ≤ s0 ∧ s0 ≤ 1900) (b1 : 0 ≤ s1 ∧ s1 ≤ 60) (b2 : 0 ≤ s2 ∧ s2 ≤ 7) (b3 : 1 ≤ s3 ∧ s3 ≤ 80) (b4 : (-1) ≤ s4 ∧ s4 ≤ 600000) (b5 : 0 ≤ s5 ∧ s5 ≤ 1900) (m0 : HP 277 (64 * s0 + s1 + 131072) (128 * s2 + s3) M) (m1 : HP 47 (s0) (s4) M) (m2 : HP 46 (s0) (s5) M) (f0 : 0 ≤ ((-1) * s1 + 59)) (f1 : 0 ≤ (s4 - 262161)) (f2 : 0 ≤ ((-1) * s4 + 262167)) (hG : gI M) : (HP 277 (s1 + 64 * s5 + 1) (128 * s2 + s3) M ∧ True) := by
  obtain ⟨k0, l1, h⟩ := rs_g (Eq.mp hp_277 m0) 1 s0.toNat s1.toNat s2.toNat s3.toNat (by unfold rix; omega) (by omega) (by omega) (by omega) (by omega)
  have hK := prow_1 (M := M) l1
  rw [hK] at h
  have k : ltt (tm M) s0.toNat = 9 := by
    unfold ltt
    rw [show tK (tm M) s0.toNat = _ from (q47 m1).2]
    unfold lty
    (repeat' split) <;> omega
  have e : tE (tm M) s0.toNat = s5.toNat := by
    have := (q46 m2).2
    omega
  exact ⟨Eq.mpr hp_277 (rs_p 0 (tE (tm M) s0.toNat) (s1.toNat + 1) s2.toNat s3.toNat (by unfold rix; omega) (by omega) (by omega) (by omega) (by omega) (by omega) (by omega) (by omega) k0 hK (rm_ua h k (by omega))), trivial⟩
theorem rul_324 : Rul r_324 := by
  refine ⟨fun _ ρ M hm hB hF hG => ?_, fun gi gv hg => (by cases hg)⟩
  have H := cr_324 M (ρ 0) (ρ 1) (ρ 2) (ρ 3) (ρ 4) (ρ 5) (hB _ List.mem_cons_self) (hB _ (List.mem_cons_of_mem _ List.mem_cons_self)) (hB _ (List.mem_cons_of_mem _ (List.mem_cons_of_mem _ List.mem_cons_self))) (hB _ (List.mem_cons_of_mem _ (List.mem_cons_of_mem _ (List.mem_cons_of_mem _ List.mem_cons_self)))) (hB _ (List.mem_cons_of_mem _ (List.mem_cons_of_mem _ (List.mem_cons_of_mem _ (List.mem_cons_of_mem _ List.mem_cons_self))))) (hB _ (List.mem_cons_of_mem _ (List.mem_cons_of_mem _ (List.mem_cons_of_mem _ (List.mem_cons_of_mem _ (List.mem_cons_of_mem _ List.mem_cons_self)))))) (cvp 277 (x' := (64 * (ρ 0) + (ρ 1) + 131072)) (y' := (128 * (ρ 2) + (ρ 3))) (by show 131072 + (64 * ρ 0 + (1 * ρ 1 + 0)) = _; omega) (by show 0 + (128 * ρ 2 + (1 * ρ 3 + 0)) = _; omega) (hm _ List.mem_cons_self)) (cvp 47 (x' := ((ρ 0))) (y' := ((ρ 4))) (by show 0 + (1 * ρ 0 + 0) = _; omega) (by show 0 + (1 * ρ 4 + 0) = _; omega) (hm _ (List.mem_cons_of_mem _ List.mem_cons_self))) (cvp 46 (x' := ((ρ 0))) (y' := ((ρ 5))) (by show 0 + (1 * ρ 0 + 0) = _; omega) (by show 0 + (1 * ρ 5 + 0) = _; omega) (hm _ (List.mem_cons_of_mem _ (List.mem_cons_of_mem _ List.mem_cons_self)))) (by have h := hF _ List.mem_cons_self; have h : 0 ≤ 59 + ((-1) * ρ 1 + 0) := h; omega) (by have h := hF _ (List.mem_cons_of_mem _ List.mem_cons_self); have h : 0 ≤ (-262161) + (1 * ρ 4 + 0) := h; omega) (by have h := hF _ (List.mem_cons_of_mem _ (List.mem_cons_of_mem _ List.mem_cons_self)); have h : 0 ≤ 262167 + ((-1) * ρ 4 + 0) := h; omega) hG
  obtain ⟨k0, -⟩ := H
  exact ⟨_, List.mem_cons_self, ρ, fun _ _ => rfl, (okM_c (pvp 277 (by show 1 + (1 * ρ 1 + (64 * ρ 5 + 0)) = _; omega) (by show 0 + (128 * ρ 2 + (1 * ρ 3 + 0)) = _; omega) k0) okM_n), okB_n, okF_n⟩
-- rue0
theorem cr_325 (M : pM) (s0 s1 s2 s3 s4 : Int) (b0 : 0 ≤ s0 ∧ s0 ≤ 1900) (b1 : 0 ≤ s1 ∧ s1 ≤ 60) (b2 : 0 ≤ s2 ∧ s2 ≤ 7) (b3 : 1 ≤ s3 ∧ s3 ≤ 80) (b4 : (-1) ≤ s4 ∧ s4 ≤ 600000) (m0 : HP 277 (64 * s0 + s1 + 131072) (128 * s2 + s3) M) (m1 : HP 47 (s0) (s4) M) (f0 : 0 ≤ ((-1) * s4 + 262155)) (hG : gI M) : (HP 280 (0 : Int) (s0) M ∧ True) := by
  obtain ⟨k0, l1, h⟩ := rs_g (Eq.mp hp_277 m0) 1 s0.toNat s1.toNat s2.toNat s3.toNat (by unfold rix; omega) (by omega) (by omega) (by omega) (by omega)
  have hK := prow_1 (M := M) l1
  rw [hK] at h
  have k3 : ltt (tm M) s0.toNat ≠ 3 := by
    unfold ltt
    rw [show tK (tm M) s0.toNat = _ from (q47 m1).2]
    unfold lty
    (repeat' split) <;> omega
  have k7 : ltt (tm M) s0.toNat ≠ 7 := by
    unfold ltt
    rw [show tK (tm M) s0.toNat = _ from (q47 m1).2]
    unfold lty
    (repeat' split) <;> omega
  have k9 : ltt (tm M) s0.toNat ≠ 9 := by
    unfold ltt
    rw [show tK (tm M) s0.toNat = _ from (q47 m1).2]
    unfold lty
    (repeat' split) <;> omega
  exact ⟨Eq.mpr hp_280 (Or.inr (Or.inl ⟨k0, s0.toNat, by omega, rm_ue h k3 k7 k9⟩)), trivial⟩
theorem rul_325 : Rul r_325 := by
  refine ⟨fun _ ρ M hm hB hF hG => ?_, fun gi gv hg => (by cases hg)⟩
  have H := cr_325 M (ρ 0) (ρ 1) (ρ 2) (ρ 3) (ρ 4) (hB _ List.mem_cons_self) (hB _ (List.mem_cons_of_mem _ List.mem_cons_self)) (hB _ (List.mem_cons_of_mem _ (List.mem_cons_of_mem _ List.mem_cons_self))) (hB _ (List.mem_cons_of_mem _ (List.mem_cons_of_mem _ (List.mem_cons_of_mem _ List.mem_cons_self)))) (hB _ (List.mem_cons_of_mem _ (List.mem_cons_of_mem _ (List.mem_cons_of_mem _ (List.mem_cons_of_mem _ List.mem_cons_self))))) (cvp 277 (x' := (64 * (ρ 0) + (ρ 1) + 131072)) (y' := (128 * (ρ 2) + (ρ 3))) (by show 131072 + (64 * ρ 0 + (1 * ρ 1 + 0)) = _; omega) (by show 0 + (128 * ρ 2 + (1 * ρ 3 + 0)) = _; omega) (hm _ List.mem_cons_self)) (cvp 47 (x' := ((ρ 0))) (y' := ((ρ 4))) (by show 0 + (1 * ρ 0 + 0) = _; omega) (by show 0 + (1 * ρ 4 + 0) = _; omega) (hm _ (List.mem_cons_of_mem _ List.mem_cons_self))) (by have h := hF _ List.mem_cons_self; have h : 0 ≤ 262155 + ((-1) * ρ 4 + 0) := h; omega) hG
  obtain ⟨k0, -⟩ := H
  exact ⟨_, List.mem_cons_self, ρ, fun _ _ => rfl, (okM_c (pvp 280 (by show 0 + 0 = _; omega) (by show 0 + (1 * ρ 0 + 0) = _; omega) k0) okM_n), okB_n, okF_n⟩
-- rue1
theorem cr_326 (M : pM) (s0 s1 s2 s3 s4 : Int) (b0 : 0 ≤ s0 ∧ s0 ≤ 1900) (b1 : 0 ≤ s1 ∧ s1 ≤ 60) (b2 : 0 ≤ s2 ∧ s2 ≤ 7) (b3 : 1 ≤ s3 ∧ s3 ≤ 80) (b4 : (-1) ≤ s4 ∧ s4 ≤ 600000) (m0 : HP 277 (64 * s0 + s1 + 131072) (128 * s2 + s3) M) (m1 : HP 47 (s0) (s4) M) (f0 : 0 ≤ (s4 - 262157)) (f1 : 0 ≤ ((-1) * s4 + 262159)) (hG : gI M) : (HP 280 (0 : Int) (s0) M ∧ True) := by
  obtain ⟨k0, l1, h⟩ := rs_g (Eq.mp hp_277 m0) 1 s0.toNat s1.toNat s2.toNat s3.toNat (by unfold rix; omega) (by omega) (by omega) (by omega) (by omega)
  have hK := prow_1 (M := M) l1
  rw [hK] at h
  have k3 : ltt (tm M) s0.toNat ≠ 3 := by
    unfold ltt
    rw [show tK (tm M) s0.toNat = _ from (q47 m1).2]
    unfold lty
    (repeat' split) <;> omega
  have k7 : ltt (tm M) s0.toNat ≠ 7 := by
    unfold ltt
    rw [show tK (tm M) s0.toNat = _ from (q47 m1).2]
    unfold lty
    (repeat' split) <;> omega
  have k9 : ltt (tm M) s0.toNat ≠ 9 := by
    unfold ltt
    rw [show tK (tm M) s0.toNat = _ from (q47 m1).2]
    unfold lty
    (repeat' split) <;> omega
  exact ⟨Eq.mpr hp_280 (Or.inr (Or.inl ⟨k0, s0.toNat, by omega, rm_ue h k3 k7 k9⟩)), trivial⟩
theorem rul_326 : Rul r_326 := by
  refine ⟨fun _ ρ M hm hB hF hG => ?_, fun gi gv hg => (by cases hg)⟩
  have H := cr_326 M (ρ 0) (ρ 1) (ρ 2) (ρ 3) (ρ 4) (hB _ List.mem_cons_self) (hB _ (List.mem_cons_of_mem _ List.mem_cons_self)) (hB _ (List.mem_cons_of_mem _ (List.mem_cons_of_mem _ List.mem_cons_self))) (hB _ (List.mem_cons_of_mem _ (List.mem_cons_of_mem _ (List.mem_cons_of_mem _ List.mem_cons_self)))) (hB _ (List.mem_cons_of_mem _ (List.mem_cons_of_mem _ (List.mem_cons_of_mem _ (List.mem_cons_of_mem _ List.mem_cons_self))))) (cvp 277 (x' := (64 * (ρ 0) + (ρ 1) + 131072)) (y' := (128 * (ρ 2) + (ρ 3))) (by show 131072 + (64 * ρ 0 + (1 * ρ 1 + 0)) = _; omega) (by show 0 + (128 * ρ 2 + (1 * ρ 3 + 0)) = _; omega) (hm _ List.mem_cons_self)) (cvp 47 (x' := ((ρ 0))) (y' := ((ρ 4))) (by show 0 + (1 * ρ 0 + 0) = _; omega) (by show 0 + (1 * ρ 4 + 0) = _; omega) (hm _ (List.mem_cons_of_mem _ List.mem_cons_self))) (by have h := hF _ List.mem_cons_self; have h : 0 ≤ (-262157) + (1 * ρ 4 + 0) := h; omega) (by have h := hF _ (List.mem_cons_of_mem _ List.mem_cons_self); have h : 0 ≤ 262159 + ((-1) * ρ 4 + 0) := h; omega) hG
  obtain ⟨k0, -⟩ := H
  exact ⟨_, List.mem_cons_self, ρ, fun _ _ => rfl, (okM_c (pvp 280 (by show 0 + 0 = _; omega) (by show 0 + (1 * ρ 0 + 0) = _; omega) k0) okM_n), okB_n, okF_n⟩
-- rue3
theorem cr_327 (M : pM) (s0 s1 s2 s3 s4 : Int) (b0 : 0 ≤ s0 ∧ s0 ≤ 1900) (b1 : 0 ≤ s1 ∧ s1 ≤ 60) (b2 : 0 ≤ s2 ∧ s2 ≤ 7) (b3 : 1 ≤ s3 ∧ s3 ≤ 80) (b4 : (-1) ≤ s4 ∧ s4 ≤ 600000) (m0 : HP 277 (64 * s0 + s1 + 131072) (128 * s2 + s3) M) (m1 : HP 47 (s0) (s4) M) (f0 : 0 ≤ (s4 - 403216)) (f1 : 0 ≤ ((-1) * s4 + 524327)) (hG : gI M) : (HP 280 (0 : Int) (s0) M ∧ True) := by
  obtain ⟨k0, l1, h⟩ := rs_g (Eq.mp hp_277 m0) 1 s0.toNat s1.toNat s2.toNat s3.toNat (by unfold rix; omega) (by omega) (by omega) (by omega) (by omega)
  have hK := prow_1 (M := M) l1
  rw [hK] at h
  have k3 : ltt (tm M) s0.toNat ≠ 3 := by
    unfold ltt
    rw [show tK (tm M) s0.toNat = _ from (q47 m1).2]
    unfold lty
    (repeat' split) <;> omega
  have k7 : ltt (tm M) s0.toNat ≠ 7 := by
    unfold ltt
    rw [show tK (tm M) s0.toNat = _ from (q47 m1).2]
    unfold lty
    (repeat' split) <;> omega
  have k9 : ltt (tm M) s0.toNat ≠ 9 := by
    unfold ltt
    rw [show tK (tm M) s0.toNat = _ from (q47 m1).2]
    unfold lty
    (repeat' split) <;> omega
  exact ⟨Eq.mpr hp_280 (Or.inr (Or.inl ⟨k0, s0.toNat, by omega, rm_ue h k3 k7 k9⟩)), trivial⟩
theorem rul_327 : Rul r_327 := by
  refine ⟨fun _ ρ M hm hB hF hG => ?_, fun gi gv hg => (by cases hg)⟩
  have H := cr_327 M (ρ 0) (ρ 1) (ρ 2) (ρ 3) (ρ 4) (hB _ List.mem_cons_self) (hB _ (List.mem_cons_of_mem _ List.mem_cons_self)) (hB _ (List.mem_cons_of_mem _ (List.mem_cons_of_mem _ List.mem_cons_self))) (hB _ (List.mem_cons_of_mem _ (List.mem_cons_of_mem _ (List.mem_cons_of_mem _ List.mem_cons_self)))) (hB _ (List.mem_cons_of_mem _ (List.mem_cons_of_mem _ (List.mem_cons_of_mem _ (List.mem_cons_of_mem _ List.mem_cons_self))))) (cvp 277 (x' := (64 * (ρ 0) + (ρ 1) + 131072)) (y' := (128 * (ρ 2) + (ρ 3))) (by show 131072 + (64 * ρ 0 + (1 * ρ 1 + 0)) = _; omega) (by show 0 + (128 * ρ 2 + (1 * ρ 3 + 0)) = _; omega) (hm _ List.mem_cons_self)) (cvp 47 (x' := ((ρ 0))) (y' := ((ρ 4))) (by show 0 + (1 * ρ 0 + 0) = _; omega) (by show 0 + (1 * ρ 4 + 0) = _; omega) (hm _ (List.mem_cons_of_mem _ List.mem_cons_self))) (by have h := hF _ List.mem_cons_self; have h : 0 ≤ (-403216) + (1 * ρ 4 + 0) := h; omega) (by have h := hF _ (List.mem_cons_of_mem _ List.mem_cons_self); have h : 0 ≤ 524327 + ((-1) * ρ 4 + 0) := h; omega) hG
  obtain ⟨k0, -⟩ := H
  exact ⟨_, List.mem_cons_self, ρ, fun _ _ => rfl, (okM_c (pvp 280 (by show 0 + 0 = _; omega) (by show 0 + (1 * ρ 0 + 0) = _; omega) k0) okM_n), okB_n, okF_n⟩
-- rue4
theorem cr_328 (M : pM) (s0 s1 s2 s3 s4 : Int) (b0 : 0 ≤ s0 ∧ s0 ≤ 1900) (b1 : 0 ≤ s1 ∧ s1 ≤ 60) (b2 : 0 ≤ s2 ∧ s2 ≤ 7) (b3 : 1 ≤ s3 ∧ s3 ≤ 80) (b4 : (-1) ≤ s4 ∧ s4 ≤ 600000) (m0 : HP 277 (64 * s0 + s1 + 131072) (128 * s2 + s3) M) (m1 : HP 47 (s0) (s4) M) (f0 : 0 ≤ (s4 - 524329)) (hG : gI M) : (HP 280 (0 : Int) (s0) M ∧ True) := by
  obtain ⟨k0, l1, h⟩ := rs_g (Eq.mp hp_277 m0) 1 s0.toNat s1.toNat s2.toNat s3.toNat (by unfold rix; omega) (by omega) (by omega) (by omega) (by omega)
  have hK := prow_1 (M := M) l1
  rw [hK] at h
  have k3 : ltt (tm M) s0.toNat ≠ 3 := by
    unfold ltt
    rw [show tK (tm M) s0.toNat = _ from (q47 m1).2]
    unfold lty
    (repeat' split) <;> omega
  have k7 : ltt (tm M) s0.toNat ≠ 7 := by
    unfold ltt
    rw [show tK (tm M) s0.toNat = _ from (q47 m1).2]
    unfold lty
    (repeat' split) <;> omega
  have k9 : ltt (tm M) s0.toNat ≠ 9 := by
    unfold ltt
    rw [show tK (tm M) s0.toNat = _ from (q47 m1).2]
    unfold lty
    (repeat' split) <;> omega
  exact ⟨Eq.mpr hp_280 (Or.inr (Or.inl ⟨k0, s0.toNat, by omega, rm_ue h k3 k7 k9⟩)), trivial⟩
theorem rul_328 : Rul r_328 := by
  refine ⟨fun _ ρ M hm hB hF hG => ?_, fun gi gv hg => (by cases hg)⟩
  have H := cr_328 M (ρ 0) (ρ 1) (ρ 2) (ρ 3) (ρ 4) (hB _ List.mem_cons_self) (hB _ (List.mem_cons_of_mem _ List.mem_cons_self)) (hB _ (List.mem_cons_of_mem _ (List.mem_cons_of_mem _ List.mem_cons_self))) (hB _ (List.mem_cons_of_mem _ (List.mem_cons_of_mem _ (List.mem_cons_of_mem _ List.mem_cons_self)))) (hB _ (List.mem_cons_of_mem _ (List.mem_cons_of_mem _ (List.mem_cons_of_mem _ (List.mem_cons_of_mem _ List.mem_cons_self))))) (cvp 277 (x' := (64 * (ρ 0) + (ρ 1) + 131072)) (y' := (128 * (ρ 2) + (ρ 3))) (by show 131072 + (64 * ρ 0 + (1 * ρ 1 + 0)) = _; omega) (by show 0 + (128 * ρ 2 + (1 * ρ 3 + 0)) = _; omega) (hm _ List.mem_cons_self)) (cvp 47 (x' := ((ρ 0))) (y' := ((ρ 4))) (by show 0 + (1 * ρ 0 + 0) = _; omega) (by show 0 + (1 * ρ 4 + 0) = _; omega) (hm _ (List.mem_cons_of_mem _ List.mem_cons_self))) (by have h := hF _ List.mem_cons_self; have h : 0 ≤ (-524329) + (1 * ρ 4 + 0) := h; omega) hG
  obtain ⟨k0, -⟩ := H
  exact ⟨_, List.mem_cons_self, ρ, fun _ _ => rfl, (okM_c (pvp 280 (by show 0 + 0 = _; omega) (by show 0 + (1 * ρ 0 + 0) = _; omega) k0) okM_n), okB_n, okF_n⟩
-- ruf0
theorem cr_329 (M : pM) (s0 s1 s2 s3 s4 : Int) (b0 : 0 ≤ s0 ∧ s0 ≤ 1900) (b1 : 0 ≤ s1 ∧ s1 ≤ 60) (b2 : 0 ≤ s2 ∧ s2 ≤ 7) (b3 : 1 ≤ s3 ∧ s3 ≤ 80) (b4 : (-1) ≤ s4 ∧ s4 ≤ 600000) (m0 : HP 277 (64 * s0 + s1 + 131072) (128 * s2 + s3) M) (m1 : HP 47 (s0) (s4) M) (f0 : 0 ≤ ((-1) * s4 + 262159)) (f1 : 0 ≤ (s1 - 60)) (hG : gI M) : (HP 280 (0 : Int) (s0) M ∧ True) := by
  obtain ⟨k0, l1, h⟩ := rs_g (Eq.mp hp_277 m0) 1 s0.toNat s1.toNat s2.toNat s3.toNat (by unfold rix; omega) (by omega) (by omega) (by omega) (by omega)
  have hK := prow_1 (M := M) l1
  rw [hK] at h
  have k3 : ltt (tm M) s0.toNat ≠ 3 := by
    unfold ltt
    rw [show tK (tm M) s0.toNat = _ from (q47 m1).2]
    unfold lty
    (repeat' split) <;> omega
  exact ⟨Eq.mpr hp_280 (Or.inr (Or.inl ⟨k0, s0.toNat, by omega, rm_uf h (Or.inl k3) (by omega)⟩)), trivial⟩
theorem rul_329 : Rul r_329 := by
  refine ⟨fun _ ρ M hm hB hF hG => ?_, fun gi gv hg => (by cases hg)⟩
  have H := cr_329 M (ρ 0) (ρ 1) (ρ 2) (ρ 3) (ρ 4) (hB _ List.mem_cons_self) (hB _ (List.mem_cons_of_mem _ List.mem_cons_self)) (hB _ (List.mem_cons_of_mem _ (List.mem_cons_of_mem _ List.mem_cons_self))) (hB _ (List.mem_cons_of_mem _ (List.mem_cons_of_mem _ (List.mem_cons_of_mem _ List.mem_cons_self)))) (hB _ (List.mem_cons_of_mem _ (List.mem_cons_of_mem _ (List.mem_cons_of_mem _ (List.mem_cons_of_mem _ List.mem_cons_self))))) (cvp 277 (x' := (64 * (ρ 0) + (ρ 1) + 131072)) (y' := (128 * (ρ 2) + (ρ 3))) (by show 131072 + (64 * ρ 0 + (1 * ρ 1 + 0)) = _; omega) (by show 0 + (128 * ρ 2 + (1 * ρ 3 + 0)) = _; omega) (hm _ List.mem_cons_self)) (cvp 47 (x' := ((ρ 0))) (y' := ((ρ 4))) (by show 0 + (1 * ρ 0 + 0) = _; omega) (by show 0 + (1 * ρ 4 + 0) = _; omega) (hm _ (List.mem_cons_of_mem _ List.mem_cons_self))) (by have h := hF _ List.mem_cons_self; have h : 0 ≤ 262159 + ((-1) * ρ 4 + 0) := h; omega) (by have h := hF _ (List.mem_cons_of_mem _ List.mem_cons_self); have h : 0 ≤ (-60) + (1 * ρ 1 + 0) := h; omega) hG
  obtain ⟨k0, -⟩ := H
  exact ⟨_, List.mem_cons_self, ρ, fun _ _ => rfl, (okM_c (pvp 280 (by show 0 + 0 = _; omega) (by show 0 + (1 * ρ 0 + 0) = _; omega) k0) okM_n), okB_n, okF_n⟩
-- ruf1
theorem cr_330 (M : pM) (s0 s1 s2 s3 s4 : Int) (b0 : 0 ≤ s0 ∧ s0 ≤ 1900) (b1 : 0 ≤ s1 ∧ s1 ≤ 60) (b2 : 0 ≤ s2 ∧ s2 ≤ 7) (b3 : 1 ≤ s3 ∧ s3 ≤ 80) (b4 : (-1) ≤ s4 ∧ s4 ≤ 600000) (m0 : HP 277 (64 * s0 + s1 + 131072) (128 * s2 + s3) M) (m1 : HP 47 (s0) (s4) M) (f0 : 0 ≤ (s4 - 262161)) (f1 : 0 ≤ (s1 - 60)) (hG : gI M) : (HP 280 (0 : Int) (s0) M ∧ True) := by
  obtain ⟨k0, l1, h⟩ := rs_g (Eq.mp hp_277 m0) 1 s0.toNat s1.toNat s2.toNat s3.toNat (by unfold rix; omega) (by omega) (by omega) (by omega) (by omega)
  have hK := prow_1 (M := M) l1
  rw [hK] at h
  have k3 : ltt (tm M) s0.toNat ≠ 3 := by
    unfold ltt
    rw [show tK (tm M) s0.toNat = _ from (q47 m1).2]
    unfold lty
    (repeat' split) <;> omega
  exact ⟨Eq.mpr hp_280 (Or.inr (Or.inl ⟨k0, s0.toNat, by omega, rm_uf h (Or.inl k3) (by omega)⟩)), trivial⟩
theorem rul_330 : Rul r_330 := by
  refine ⟨fun _ ρ M hm hB hF hG => ?_, fun gi gv hg => (by cases hg)⟩
  have H := cr_330 M (ρ 0) (ρ 1) (ρ 2) (ρ 3) (ρ 4) (hB _ List.mem_cons_self) (hB _ (List.mem_cons_of_mem _ List.mem_cons_self)) (hB _ (List.mem_cons_of_mem _ (List.mem_cons_of_mem _ List.mem_cons_self))) (hB _ (List.mem_cons_of_mem _ (List.mem_cons_of_mem _ (List.mem_cons_of_mem _ List.mem_cons_self)))) (hB _ (List.mem_cons_of_mem _ (List.mem_cons_of_mem _ (List.mem_cons_of_mem _ (List.mem_cons_of_mem _ List.mem_cons_self))))) (cvp 277 (x' := (64 * (ρ 0) + (ρ 1) + 131072)) (y' := (128 * (ρ 2) + (ρ 3))) (by show 131072 + (64 * ρ 0 + (1 * ρ 1 + 0)) = _; omega) (by show 0 + (128 * ρ 2 + (1 * ρ 3 + 0)) = _; omega) (hm _ List.mem_cons_self)) (cvp 47 (x' := ((ρ 0))) (y' := ((ρ 4))) (by show 0 + (1 * ρ 0 + 0) = _; omega) (by show 0 + (1 * ρ 4 + 0) = _; omega) (hm _ (List.mem_cons_of_mem _ List.mem_cons_self))) (by have h := hF _ List.mem_cons_self; have h : 0 ≤ (-262161) + (1 * ρ 4 + 0) := h; omega) (by have h := hF _ (List.mem_cons_of_mem _ List.mem_cons_self); have h : 0 ≤ (-60) + (1 * ρ 1 + 0) := h; omega) hG
  obtain ⟨k0, -⟩ := H
  exact ⟨_, List.mem_cons_self, ρ, fun _ _ => rfl, (okM_c (pvp 280 (by show 0 + 0 = _; omega) (by show 0 + (1 * ρ 0 + 0) = _; omega) k0) okM_n), okB_n, okF_n⟩
-- rum
theorem cr_331 (M : pM) (s0 s1 s2 s3 s4 : Int) (b0 : 0 ≤ s0 ∧ s0 ≤ 1900) (b1 : 0 ≤ s1 ∧ s1 ≤ 60) (b2 : 0 ≤ s2 ∧ s2 ≤ 7) (b3 : 1 ≤ s3 ∧ s3 ≤ 80) (b4 : 0 ≤ s4 ∧ s4 ≤ 8) (m0 : HP 277 (64 * s0 + s1 + 131072) (128 * s2 + s3) M) (m1 : HP 47 (s0) (262160 : Int) M) (m2 : (0 ≤ (s3 - 1) ∧ M 111 (s3 - 1).toNat = (s4))) (f0 : 0 ≤ (s4 - 4)) (f1 : 0 ≤ ((-1) * s4 + 6)) (hG : gI M) : (HP 280 (0 : Int) (s0) M ∧ True) := by
  obtain ⟨k0, l1, h⟩ := rs_g (Eq.mp hp_277 m0) 1 s0.toNat s1.toNat s2.toNat s3.toNat (by unfold rix; omega) (by omega) (by omega) (by omega) (by omega)
  have hw : M 111 (s3.toNat - 1) = ((s4.toNat : Nat) : Int) := by
    rw [show s3.toNat - 1 = (s3 - 1).toNat by omega, m2.2]
    omega
  have hK := prow_s l1 hw
  rw [hK] at h
  have k : ltt (tm M) s0.toNat = 3 := by
    unfold ltt
    rw [show tK (tm M) s0.toNat = _ from (q47 m1).2]
    unfold lty
    (repeat' split) <;> omega
  exact ⟨Eq.mpr hp_280 (Or.inr (Or.inl ⟨k0, s0.toNat, by omega, rm_um h k (by omega)⟩)), trivial⟩
theorem rul_331 : Rul r_331 := by
  refine ⟨fun _ ρ M hm hB hF hG => ?_, fun gi gv hg => (by cases hg)⟩
  have H := cr_331 M (ρ 0) (ρ 1) (ρ 2) (ρ 3) (ρ 4) (hB _ List.mem_cons_self) (hB _ (List.mem_cons_of_mem _ List.mem_cons_self)) (hB _ (List.mem_cons_of_mem _ (List.mem_cons_of_mem _ List.mem_cons_self))) (hB _ (List.mem_cons_of_mem _ (List.mem_cons_of_mem _ (List.mem_cons_of_mem _ List.mem_cons_self)))) (hB _ (List.mem_cons_of_mem _ (List.mem_cons_of_mem _ (List.mem_cons_of_mem _ (List.mem_cons_of_mem _ List.mem_cons_self))))) (cvp 277 (x' := (64 * (ρ 0) + (ρ 1) + 131072)) (y' := (128 * (ρ 2) + (ρ 3))) (by show 131072 + (64 * ρ 0 + (1 * ρ 1 + 0)) = _; omega) (by show 0 + (128 * ρ 2 + (1 * ρ 3 + 0)) = _; omega) (hm _ List.mem_cons_self)) (cvp 47 (x' := ((ρ 0))) (y' := (262160 : Int)) (by show 0 + (1 * ρ 0 + 0) = _; omega) (by show 262160 + 0 = _; omega) (hm _ (List.mem_cons_of_mem _ List.mem_cons_self))) (cvm (c := 111) (by decide) (x' := ((ρ 3) - 1)) (y' := ((ρ 4))) (by show (-1) + (1 * ρ 3 + 0) = _; omega) (by show 0 + (1 * ρ 4 + 0) = _; omega) (hm _ (List.mem_cons_of_mem _ (List.mem_cons_of_mem _ List.mem_cons_self)))) (by have h := hF _ List.mem_cons_self; have h : 0 ≤ (-4) + (1 * ρ 4 + 0) := h; omega) (by have h := hF _ (List.mem_cons_of_mem _ List.mem_cons_self); have h : 0 ≤ 6 + ((-1) * ρ 4 + 0) := h; omega) hG
  obtain ⟨k0, -⟩ := H
  exact ⟨_, List.mem_cons_self, ρ, fun _ _ => rfl, (okM_c (pvp 280 (by show 0 + 0 = _; omega) (by show 0 + (1 * ρ 0 + 0) = _; omega) k0) okM_n), okB_n, okF_n⟩
-- rpr1
theorem cr_332 (M : pM) (s0 s1 s2 s3 s4 : Int) (b0 : 0 ≤ s0 ∧ s0 ≤ 1900) (b1 : 0 ≤ s1 ∧ s1 ≤ 60) (b2 : 0 ≤ s2 ∧ s2 ≤ 7) (b3 : 1 ≤ s3 ∧ s3 ≤ 80) (b4 : 0 ≤ s4 ∧ s4 ≤ 1900) (m0 : HP 278 (64 * s0 + s1 + 1310720) (2048 * s2 + 16 * s3 + 1) M) (m1 : HP 46 (s0) (s4) M) (hG : gI M) : (HP 277 (s1 + 64 * s4 + 131072) (128 * s2 + s3 + 1) M ∧ True) := by
  have e : tE (tm M) s0.toNat = s4.toNat := by
    have := (q46 m1).2
    omega
  obtain ⟨k0, l1, d1, h⟩ := rp_g (Eq.mp hp_278 m0) 1 s0.toNat s1.toNat s2.toNat s3.toNat (by unfold rix; omega) (by omega) (by omega) (by omega) (by omega) (by omega)
  exact ⟨Eq.mpr hp_277 (rs_p 1 (tE (tm M) s0.toNat) s1.toNat s2.toNat (s3.toNat + 1) (by unfold rix; omega) (by omega) (by omega) (by omega) (by omega) (by omega) (by omega) (by omega) k0 rfl (h)), trivial⟩
theorem rul_332 : Rul r_332 := by
  refine ⟨fun _ ρ M hm hB hF hG => ?_, fun gi gv hg => (by cases hg)⟩
  have H := cr_332 M (ρ 0) (ρ 1) (ρ 2) (ρ 3) (ρ 4) (hB _ List.mem_cons_self) (hB _ (List.mem_cons_of_mem _ List.mem_cons_self)) (hB _ (List.mem_cons_of_mem _ (List.mem_cons_of_mem _ List.mem_cons_self))) (hB _ (List.mem_cons_of_mem _ (List.mem_cons_of_mem _ (List.mem_cons_of_mem _ List.mem_cons_self)))) (hB _ (List.mem_cons_of_mem _ (List.mem_cons_of_mem _ (List.mem_cons_of_mem _ (List.mem_cons_of_mem _ List.mem_cons_self))))) (cvp 278 (x' := (64 * (ρ 0) + (ρ 1) + 1310720)) (y' := (2048 * (ρ 2) + 16 * (ρ 3) + 1)) (by show 1310720 + (64 * ρ 0 + (1 * ρ 1 + 0)) = _; omega) (by show 1 + (2048 * ρ 2 + (16 * ρ 3 + 0)) = _; omega) (hm _ List.mem_cons_self)) (cvp 46 (x' := ((ρ 0))) (y' := ((ρ 4))) (by show 0 + (1 * ρ 0 + 0) = _; omega) (by show 0 + (1 * ρ 4 + 0) = _; omega) (hm _ (List.mem_cons_of_mem _ List.mem_cons_self))) hG
  obtain ⟨k0, -⟩ := H
  exact ⟨_, List.mem_cons_self, ρ, fun _ _ => rfl, (okM_c (pvp 277 (by show 131072 + (1 * ρ 1 + (64 * ρ 4 + 0)) = _; omega) (by show 1 + (128 * ρ 2 + (1 * ρ 3 + 0)) = _; omega) k0) okM_n), okB_n, okF_n⟩
-- rpr2
theorem cr_333 (M : pM) (s0 s1 s2 s3 s4 : Int) (b0 : 0 ≤ s0 ∧ s0 ≤ 1900) (b1 : 0 ≤ s1 ∧ s1 ≤ 60) (b2 : 0 ≤ s2 ∧ s2 ≤ 7) (b3 : 1 ≤ s3 ∧ s3 ≤ 80) (b4 : 0 ≤ s4 ∧ s4 ≤ 1900) (m0 : HP 278 (64 * s0 + s1 + 1441792) (2048 * s2 + 16 * s3 + 2) M) (m1 : HP 46 (s0) (s4) M) (hG : gI M) : (HP 277 (s1 + 64 * s4 + 131072) (128 * s2 + s3 + 1) M ∧ True) := by
  have e : tE (tm M) s0.toNat = s4.toNat := by
    have := (q46 m1).2
    omega
  obtain ⟨k0, l1, d1, h⟩ := rp_g (Eq.mp hp_278 m0) 2 s0.toNat s1.toNat s2.toNat s3.toNat (by unfold rix; omega) (by omega) (by omega) (by omega) (by omega) (by omega)
  exact ⟨Eq.mpr hp_277 (rs_p 1 (tE (tm M) s0.toNat) s1.toNat s2.toNat (s3.toNat + 1) (by unfold rix; omega) (by omega) (by omega) (by omega) (by omega) (by omega) (by omega) (by omega) k0 rfl (h)), trivial⟩
theorem rul_333 : Rul r_333 := by
  refine ⟨fun _ ρ M hm hB hF hG => ?_, fun gi gv hg => (by cases hg)⟩
  have H := cr_333 M (ρ 0) (ρ 1) (ρ 2) (ρ 3) (ρ 4) (hB _ List.mem_cons_self) (hB _ (List.mem_cons_of_mem _ List.mem_cons_self)) (hB _ (List.mem_cons_of_mem _ (List.mem_cons_of_mem _ List.mem_cons_self))) (hB _ (List.mem_cons_of_mem _ (List.mem_cons_of_mem _ (List.mem_cons_of_mem _ List.mem_cons_self)))) (hB _ (List.mem_cons_of_mem _ (List.mem_cons_of_mem _ (List.mem_cons_of_mem _ (List.mem_cons_of_mem _ List.mem_cons_self))))) (cvp 278 (x' := (64 * (ρ 0) + (ρ 1) + 1441792)) (y' := (2048 * (ρ 2) + 16 * (ρ 3) + 2)) (by show 1441792 + (64 * ρ 0 + (1 * ρ 1 + 0)) = _; omega) (by show 2 + (2048 * ρ 2 + (16 * ρ 3 + 0)) = _; omega) (hm _ List.mem_cons_self)) (cvp 46 (x' := ((ρ 0))) (y' := ((ρ 4))) (by show 0 + (1 * ρ 0 + 0) = _; omega) (by show 0 + (1 * ρ 4 + 0) = _; omega) (hm _ (List.mem_cons_of_mem _ List.mem_cons_self))) hG
  obtain ⟨k0, -⟩ := H
  exact ⟨_, List.mem_cons_self, ρ, fun _ _ => rfl, (okM_c (pvp 277 (by show 131072 + (1 * ρ 1 + (64 * ρ 4 + 0)) = _; omega) (by show 1 + (128 * ρ 2 + (1 * ρ 3 + 0)) = _; omega) k0) okM_n), okB_n, okF_n⟩
-- rpr3
theorem cr_334 (M : pM) (s0 s1 s2 s3 s4 : Int) (b0 : 0 ≤ s0 ∧ s0 ≤ 1900) (b1 : 0 ≤ s1 ∧ s1 ≤ 60) (b2 : 0 ≤ s2 ∧ s2 ≤ 7) (b3 : 1 ≤ s3 ∧ s3 ≤ 80) (b4 : 0 ≤ s4 ∧ s4 ≤ 1900) (m0 : HP 278 (64 * s0 + s1 + 1572864) (2048 * s2 + 16 * s3 + 3) M) (m1 : HP 46 (s0) (s4) M) (hG : gI M) : (HP 277 (s1 + 64 * s4 + 131072) (128 * s2 + s3 + 1) M ∧ True) := by
  have e : tE (tm M) s0.toNat = s4.toNat := by
    have := (q46 m1).2
    omega
  obtain ⟨k0, l1, d1, h⟩ := rp_g (Eq.mp hp_278 m0) 3 s0.toNat s1.toNat s2.toNat s3.toNat (by unfold rix; omega) (by omega) (by omega) (by omega) (by omega) (by omega)
  exact ⟨Eq.mpr hp_277 (rs_p 1 (tE (tm M) s0.toNat) s1.toNat s2.toNat (s3.toNat + 1) (by unfold rix; omega) (by omega) (by omega) (by omega) (by omega) (by omega) (by omega) (by omega) k0 rfl (h)), trivial⟩
theorem rul_334 : Rul r_334 := by
  refine ⟨fun _ ρ M hm hB hF hG => ?_, fun gi gv hg => (by cases hg)⟩
  have H := cr_334 M (ρ 0) (ρ 1) (ρ 2) (ρ 3) (ρ 4) (hB _ List.mem_cons_self) (hB _ (List.mem_cons_of_mem _ List.mem_cons_self)) (hB _ (List.mem_cons_of_mem _ (List.mem_cons_of_mem _ List.mem_cons_self))) (hB _ (List.mem_cons_of_mem _ (List.mem_cons_of_mem _ (List.mem_cons_of_mem _ List.mem_cons_self)))) (hB _ (List.mem_cons_of_mem _ (List.mem_cons_of_mem _ (List.mem_cons_of_mem _ (List.mem_cons_of_mem _ List.mem_cons_self))))) (cvp 278 (x' := (64 * (ρ 0) + (ρ 1) + 1572864)) (y' := (2048 * (ρ 2) + 16 * (ρ 3) + 3)) (by show 1572864 + (64 * ρ 0 + (1 * ρ 1 + 0)) = _; omega) (by show 3 + (2048 * ρ 2 + (16 * ρ 3 + 0)) = _; omega) (hm _ List.mem_cons_self)) (cvp 46 (x' := ((ρ 0))) (y' := ((ρ 4))) (by show 0 + (1 * ρ 0 + 0) = _; omega) (by show 0 + (1 * ρ 4 + 0) = _; omega) (hm _ (List.mem_cons_of_mem _ List.mem_cons_self))) hG
  obtain ⟨k0, -⟩ := H
  exact ⟨_, List.mem_cons_self, ρ, fun _ _ => rfl, (okM_c (pvp 277 (by show 131072 + (1 * ρ 1 + (64 * ρ 4 + 0)) = _; omega) (by show 1 + (128 * ρ 2 + (1 * ρ 3 + 0)) = _; omega) k0) okM_n), okB_n, okF_n⟩
-- rpr4
theorem cr_335 (M : pM) (s0 s1 s2 s3 s4 : Int) (b0 : 0 ≤ s0 ∧ s0 ≤ 1900) (b1 : 0 ≤ s1 ∧ s1 ≤ 60) (b2 : 0 ≤ s2 ∧ s2 ≤ 7) (b3 : 1 ≤ s3 ∧ s3 ≤ 80) (b4 : 0 ≤ s4 ∧ s4 ≤ 1900) (m0 : HP 278 (64 * s0 + s1 + 1703936) (2048 * s2 + 16 * s3 + 4) M) (m1 : HP 46 (s0) (s4) M) (hG : gI M) : (HP 277 (s1 + 64 * s4 + 131072) (128 * s2 + s3 + 1) M ∧ True) := by
  have e : tE (tm M) s0.toNat = s4.toNat := by
    have := (q46 m1).2
    omega
  obtain ⟨k0, l1, d1, h⟩ := rp_g (Eq.mp hp_278 m0) 4 s0.toNat s1.toNat s2.toNat s3.toNat (by unfold rix; omega) (by omega) (by omega) (by omega) (by omega) (by omega)
  exact ⟨Eq.mpr hp_277 (rs_p 1 (tE (tm M) s0.toNat) s1.toNat s2.toNat (s3.toNat + 1) (by unfold rix; omega) (by omega) (by omega) (by omega) (by omega) (by omega) (by omega) (by omega) k0 rfl (h)), trivial⟩
theorem rul_335 : Rul r_335 := by
  refine ⟨fun _ ρ M hm hB hF hG => ?_, fun gi gv hg => (by cases hg)⟩
  have H := cr_335 M (ρ 0) (ρ 1) (ρ 2) (ρ 3) (ρ 4) (hB _ List.mem_cons_self) (hB _ (List.mem_cons_of_mem _ List.mem_cons_self)) (hB _ (List.mem_cons_of_mem _ (List.mem_cons_of_mem _ List.mem_cons_self))) (hB _ (List.mem_cons_of_mem _ (List.mem_cons_of_mem _ (List.mem_cons_of_mem _ List.mem_cons_self)))) (hB _ (List.mem_cons_of_mem _ (List.mem_cons_of_mem _ (List.mem_cons_of_mem _ (List.mem_cons_of_mem _ List.mem_cons_self))))) (cvp 278 (x' := (64 * (ρ 0) + (ρ 1) + 1703936)) (y' := (2048 * (ρ 2) + 16 * (ρ 3) + 4)) (by show 1703936 + (64 * ρ 0 + (1 * ρ 1 + 0)) = _; omega) (by show 4 + (2048 * ρ 2 + (16 * ρ 3 + 0)) = _; omega) (hm _ List.mem_cons_self)) (cvp 46 (x' := ((ρ 0))) (y' := ((ρ 4))) (by show 0 + (1 * ρ 0 + 0) = _; omega) (by show 0 + (1 * ρ 4 + 0) = _; omega) (hm _ (List.mem_cons_of_mem _ List.mem_cons_self))) hG
  obtain ⟨k0, -⟩ := H
  exact ⟨_, List.mem_cons_self, ρ, fun _ _ => rfl, (okM_c (pvp 277 (by show 131072 + (1 * ρ 1 + (64 * ρ 4 + 0)) = _; omega) (by show 1 + (128 * ρ 2 + (1 * ρ 3 + 0)) = _; omega) k0) okM_n), okB_n, okF_n⟩
-- rpr5
theorem cr_336 (M : pM) (s0 s1 s2 s3 s4 : Int) (b0 : 0 ≤ s0 ∧ s0 ≤ 1900) (b1 : 0 ≤ s1 ∧ s1 ≤ 60) (b2 : 0 ≤ s2 ∧ s2 ≤ 7) (b3 : 1 ≤ s3 ∧ s3 ≤ 80) (b4 : 0 ≤ s4 ∧ s4 ≤ 1900) (m0 : HP 278 (64 * s0 + s1 + 1835008) (2048 * s2 + 16 * s3 + 5) M) (m1 : HP 46 (s0) (s4) M) (hG : gI M) : (HP 277 (s1 + 64 * s4 + 131072) (128 * s2 + s3 + 1) M ∧ True) := by
  have e : tE (tm M) s0.toNat = s4.toNat := by
    have := (q46 m1).2
    omega
  obtain ⟨k0, l1, d1, h⟩ := rp_g (Eq.mp hp_278 m0) 5 s0.toNat s1.toNat s2.toNat s3.toNat (by unfold rix; omega) (by omega) (by omega) (by omega) (by omega) (by omega)
  exact ⟨Eq.mpr hp_277 (rs_p 1 (tE (tm M) s0.toNat) s1.toNat s2.toNat (s3.toNat + 1) (by unfold rix; omega) (by omega) (by omega) (by omega) (by omega) (by omega) (by omega) (by omega) k0 rfl (h)), trivial⟩
theorem rul_336 : Rul r_336 := by
  refine ⟨fun _ ρ M hm hB hF hG => ?_, fun gi gv hg => (by cases hg)⟩
  have H := cr_336 M (ρ 0) (ρ 1) (ρ 2) (ρ 3) (ρ 4) (hB _ List.mem_cons_self) (hB _ (List.mem_cons_of_mem _ List.mem_cons_self)) (hB _ (List.mem_cons_of_mem _ (List.mem_cons_of_mem _ List.mem_cons_self))) (hB _ (List.mem_cons_of_mem _ (List.mem_cons_of_mem _ (List.mem_cons_of_mem _ List.mem_cons_self)))) (hB _ (List.mem_cons_of_mem _ (List.mem_cons_of_mem _ (List.mem_cons_of_mem _ (List.mem_cons_of_mem _ List.mem_cons_self))))) (cvp 278 (x' := (64 * (ρ 0) + (ρ 1) + 1835008)) (y' := (2048 * (ρ 2) + 16 * (ρ 3) + 5)) (by show 1835008 + (64 * ρ 0 + (1 * ρ 1 + 0)) = _; omega) (by show 5 + (2048 * ρ 2 + (16 * ρ 3 + 0)) = _; omega) (hm _ List.mem_cons_self)) (cvp 46 (x' := ((ρ 0))) (y' := ((ρ 4))) (by show 0 + (1 * ρ 0 + 0) = _; omega) (by show 0 + (1 * ρ 4 + 0) = _; omega) (hm _ (List.mem_cons_of_mem _ List.mem_cons_self))) hG
  obtain ⟨k0, -⟩ := H
  exact ⟨_, List.mem_cons_self, ρ, fun _ _ => rfl, (okM_c (pvp 277 (by show 131072 + (1 * ρ 1 + (64 * ρ 4 + 0)) = _; omega) (by show 1 + (128 * ρ 2 + (1 * ρ 3 + 0)) = _; omega) k0) okM_n), okB_n, okF_n⟩
-- rpr6
theorem cr_337 (M : pM) (s0 s1 s2 s3 s4 : Int) (b0 : 0 ≤ s0 ∧ s0 ≤ 1900) (b1 : 0 ≤ s1 ∧ s1 ≤ 60) (b2 : 0 ≤ s2 ∧ s2 ≤ 7) (b3 : 1 ≤ s3 ∧ s3 ≤ 80) (b4 : 0 ≤ s4 ∧ s4 ≤ 1900) (m0 : HP 278 (64 * s0 + s1 + 1966080) (2048 * s2 + 16 * s3 + 6) M) (m1 : HP 46 (s0) (s4) M) (hG : gI M) : (HP 277 (s1 + 64 * s4 + 131072) (128 * s2 + s3 + 1) M ∧ True) := by
  have e : tE (tm M) s0.toNat = s4.toNat := by
    have := (q46 m1).2
    omega
  obtain ⟨k0, l1, d1, h⟩ := rp_g (Eq.mp hp_278 m0) 6 s0.toNat s1.toNat s2.toNat s3.toNat (by unfold rix; omega) (by omega) (by omega) (by omega) (by omega) (by omega)
  exact ⟨Eq.mpr hp_277 (rs_p 1 (tE (tm M) s0.toNat) s1.toNat s2.toNat (s3.toNat + 1) (by unfold rix; omega) (by omega) (by omega) (by omega) (by omega) (by omega) (by omega) (by omega) k0 rfl (h)), trivial⟩
theorem rul_337 : Rul r_337 := by
  refine ⟨fun _ ρ M hm hB hF hG => ?_, fun gi gv hg => (by cases hg)⟩
  have H := cr_337 M (ρ 0) (ρ 1) (ρ 2) (ρ 3) (ρ 4) (hB _ List.mem_cons_self) (hB _ (List.mem_cons_of_mem _ List.mem_cons_self)) (hB _ (List.mem_cons_of_mem _ (List.mem_cons_of_mem _ List.mem_cons_self))) (hB _ (List.mem_cons_of_mem _ (List.mem_cons_of_mem _ (List.mem_cons_of_mem _ List.mem_cons_self)))) (hB _ (List.mem_cons_of_mem _ (List.mem_cons_of_mem _ (List.mem_cons_of_mem _ (List.mem_cons_of_mem _ List.mem_cons_self))))) (cvp 278 (x' := (64 * (ρ 0) + (ρ 1) + 1966080)) (y' := (2048 * (ρ 2) + 16 * (ρ 3) + 6)) (by show 1966080 + (64 * ρ 0 + (1 * ρ 1 + 0)) = _; omega) (by show 6 + (2048 * ρ 2 + (16 * ρ 3 + 0)) = _; omega) (hm _ List.mem_cons_self)) (cvp 46 (x' := ((ρ 0))) (y' := ((ρ 4))) (by show 0 + (1 * ρ 0 + 0) = _; omega) (by show 0 + (1 * ρ 4 + 0) = _; omega) (hm _ (List.mem_cons_of_mem _ List.mem_cons_self))) hG
  obtain ⟨k0, -⟩ := H
  exact ⟨_, List.mem_cons_self, ρ, fun _ _ => rfl, (okM_c (pvp 277 (by show 131072 + (1 * ρ 1 + (64 * ρ 4 + 0)) = _; omega) (by show 1 + (128 * ρ 2 + (1 * ρ 3 + 0)) = _; omega) k0) okM_n), okB_n, okF_n⟩
-- rpr7
theorem cr_338 (M : pM) (s0 s1 s2 s3 s4 : Int) (b0 : 0 ≤ s0 ∧ s0 ≤ 1900) (b1 : 0 ≤ s1 ∧ s1 ≤ 60) (b2 : 0 ≤ s2 ∧ s2 ≤ 7) (b3 : 1 ≤ s3 ∧ s3 ≤ 80) (b4 : 0 ≤ s4 ∧ s4 ≤ 1900) (m0 : HP 278 (64 * s0 + s1 + 2097152) (2048 * s2 + 16 * s3 + 7) M) (m1 : HP 46 (s0) (s4) M) (hG : gI M) : (HP 277 (s1 + 64 * s4 + 131072) (128 * s2 + s3 + 1) M ∧ True) := by
  have e : tE (tm M) s0.toNat = s4.toNat := by
    have := (q46 m1).2
    omega
  obtain ⟨k0, l1, d1, h⟩ := rp_g (Eq.mp hp_278 m0) 7 s0.toNat s1.toNat s2.toNat s3.toNat (by unfold rix; omega) (by omega) (by omega) (by omega) (by omega) (by omega)
  exact ⟨Eq.mpr hp_277 (rs_p 1 (tE (tm M) s0.toNat) s1.toNat s2.toNat (s3.toNat + 1) (by unfold rix; omega) (by omega) (by omega) (by omega) (by omega) (by omega) (by omega) (by omega) k0 rfl (h)), trivial⟩
theorem rul_338 : Rul r_338 := by
  refine ⟨fun _ ρ M hm hB hF hG => ?_, fun gi gv hg => (by cases hg)⟩
  have H := cr_338 M (ρ 0) (ρ 1) (ρ 2) (ρ 3) (ρ 4) (hB _ List.mem_cons_self) (hB _ (List.mem_cons_of_mem _ List.mem_cons_self)) (hB _ (List.mem_cons_of_mem _ (List.mem_cons_of_mem _ List.mem_cons_self))) (hB _ (List.mem_cons_of_mem _ (List.mem_cons_of_mem _ (List.mem_cons_of_mem _ List.mem_cons_self)))) (hB _ (List.mem_cons_of_mem _ (List.mem_cons_of_mem _ (List.mem_cons_of_mem _ (List.mem_cons_of_mem _ List.mem_cons_self))))) (cvp 278 (x' := (64 * (ρ 0) + (ρ 1) + 2097152)) (y' := (2048 * (ρ 2) + 16 * (ρ 3) + 7)) (by show 2097152 + (64 * ρ 0 + (1 * ρ 1 + 0)) = _; omega) (by show 7 + (2048 * ρ 2 + (16 * ρ 3 + 0)) = _; omega) (hm _ List.mem_cons_self)) (cvp 46 (x' := ((ρ 0))) (y' := ((ρ 4))) (by show 0 + (1 * ρ 0 + 0) = _; omega) (by show 0 + (1 * ρ 4 + 0) = _; omega) (hm _ (List.mem_cons_of_mem _ List.mem_cons_self))) hG
  obtain ⟨k0, -⟩ := H
  exact ⟨_, List.mem_cons_self, ρ, fun _ _ => rfl, (okM_c (pvp 277 (by show 131072 + (1 * ρ 1 + (64 * ρ 4 + 0)) = _; omega) (by show 1 + (128 * ρ 2 + (1 * ρ 3 + 0)) = _; omega) k0) okM_n), okB_n, okF_n⟩
-- rpw
theorem cr_339 (M : pM) (s0 s1 s2 s3 s4 : Int) (b0 : 0 ≤ s0 ∧ s0 ≤ 79) (b1 : 0 ≤ s1 ∧ s1 ≤ 8) (b2 : 0 ≤ s2 ∧ s2 ≤ 60) (b3 : 0 ≤ s3 ∧ s3 ≤ 4194304) (b4 : 0 ≤ s4 ∧ s4 ≤ 7) (m0 : HP 4 (s0) (s2) M) (m1 : HP 277 (s3) (s0 + 128 * s4) M) (hG : gI M) : (HP 4 (s0) (s2) (st M 111 (s0).toNat (s1)) ∧ HP 278 (s3) (16 * s0 + s1 + 2048 * s4) (st M 111 (s0).toNat (s1)) ∧ True) := by
  obtain ⟨h1, h2, h3⟩ := m0
  have h : WSp (tm M) M s3 (s0 + 128 * s4) := Eq.mp hp_277 m1
  rw [show (s0 + 128 * s4) = 128 * ((s4.toNat : Nat) : Int) + ((s0.toNat : Nat) : Int) by omega] at h
  have z := rp_w (w := s1.toNat) (v := s1) h (by omega) (by omega) (by omega) (by omega)
  refine ⟨⟨h1, h2, ?_⟩, Eq.mpr hp_278 ?_, trivial⟩
  · rw [pbc_congr (M := M) (fun i hi => ⟨by unfold st; rw [if_neg (by omega)], by unfold st; rw [if_neg (by omega)]⟩)]
    exact h3
  · rw [tm_st (by decide) (by decide), show (16 * s0 + s1 + 2048 * s4) = 16 * (128 * ((s4.toNat : Nat) : Int) + ((s0.toNat : Nat) : Int)) + ((s1.toNat : Nat) : Int) by omega]
    exact z
theorem rul_339 : Rul r_339 := by
  refine ⟨fun h => (by cases h), fun gi gv hg ρ M hm hB hF hG => ?_⟩
  obtain ⟨g1, g2⟩ := List.cons.inj (show ([aI ((0 : Int), ([(0, 1)] : List (Nat × Int))), aI ((0 : Int), ([(1, 1)] : List (Nat × Int)))] : List av) = [.inl gi, .inl gv] from hg)
  obtain ⟨g2, -⟩ := List.cons.inj g2
  cases g1
  cases g2
  have ei : ev ρ ((0 : Int), ([(0, 1)] : List (Nat × Int))) = ((ρ 0)) := by show 0 + (1 * ρ 0 + 0) = _; omega
  have ew : ev ρ ((0 : Int), ([(1, 1)] : List (Nat × Int))) = ((ρ 1)) := by show 0 + (1 * ρ 1 + 0) = _; omega
  rw [show (st M (ctj r_339) (ev ρ ((0 : Int), ([(0, 1)] : List (Nat × Int)))).toNat (ev ρ ((0 : Int), ([(1, 1)] : List (Nat × Int))))) = (st M 111 ((ρ 0)).toNat ((ρ 1))) from by rw [ei, ew]; rfl]
  have H := cr_339 M (ρ 0) (ρ 1) (ρ 2) (ρ 3) (ρ 4) (hB _ List.mem_cons_self) (hB _ (List.mem_cons_of_mem _ List.mem_cons_self)) (hB _ (List.mem_cons_of_mem _ (List.mem_cons_of_mem _ List.mem_cons_self))) (hB _ (List.mem_cons_of_mem _ (List.mem_cons_of_mem _ (List.mem_cons_of_mem _ List.mem_cons_self)))) (hB _ (List.mem_cons_of_mem _ (List.mem_cons_of_mem _ (List.mem_cons_of_mem _ (List.mem_cons_of_mem _ List.mem_cons_self))))) (cvp 4 (x' := ((ρ 0))) (y' := ((ρ 2))) (by show 0 + (1 * ρ 0 + 0) = _; omega) (by show 0 + (1 * ρ 2 + 0) = _; omega) (hm _ List.mem_cons_self)) (cvp 277 (x' := ((ρ 3))) (y' := ((ρ 0) + 128 * (ρ 4))) (by show 0 + (1 * ρ 3 + 0) = _; omega) (by show 0 + (1 * ρ 0 + (128 * ρ 4 + 0)) = _; omega) (hm _ (List.mem_cons_of_mem _ List.mem_cons_self))) hG
  obtain ⟨k0, k1, -⟩ := H
  exact ⟨_, List.mem_cons_self, ρ, fun _ _ => rfl, (okM_c (pvp 4 (by show 0 + (1 * ρ 0 + 0) = _; omega) (by show 0 + (1 * ρ 2 + 0) = _; omega) k0) (okM_c (pvp 278 (by show 0 + (1 * ρ 3 + 0) = _; omega) (by show 0 + (16 * ρ 0 + (1 * ρ 1 + (2048 * ρ 4 + 0))) = _; omega) k1) okM_n)), okB_n, okF_n⟩
-- rbz0
theorem cr_340 (M : pM) (s0 s1 s2 s3 s4 : Int) (b0 : 0 ≤ s0 ∧ s0 ≤ 1900) (b1 : 0 ≤ s1 ∧ s1 ≤ 60) (b2 : 0 ≤ s2 ∧ s2 ≤ 7) (b3 : 1 ≤ s3 ∧ s3 ≤ 80) (b4 : (-1) ≤ s4 ∧ s4 ≤ 600000) (m0 : HP 277 (64 * s0 + s1) (128 * s2 + s3) M) (m1 : HP 47 (s0) (s4) M) (f0 : 0 ≤ ((-1) * s4 + 262157)) (hG : gI M) : (HP 277 (64 * s0 + s1 + 262144) (128 * s2 + s3) M ∧ True) := by
  obtain ⟨k0, l1, h⟩ := rs_g (Eq.mp hp_277 m0) 0 s0.toNat s1.toNat s2.toNat s3.toNat (by unfold rix; omega) (by omega) (by omega) (by omega) (by omega)
  have kz : ltt (tm M) s0.toNat = 0 ∨ ltt (tm M) s0.toNat = 3 ∨ 7 ≤ ltt (tm M) s0.toNat := by
    unfold ltt
    rw [show tK (tm M) s0.toNat = _ from (q47 m1).2]
    unfold lty
    (repeat' split) <;> omega
  exact ⟨Eq.mpr hp_277 (rs_p (2 + 0) s0.toNat s1.toNat s2.toNat s3.toNat (by unfold rix; omega) (by omega) (by omega) (by omega) (by omega) (by omega) (by omega) (by omega) k0 rfl (rm_2 (r := 0) h (by decide) (by unfold grk; rw [if_neg (by omega)]) (fun q => by omega))), trivial⟩
theorem rul_340 : Rul r_340 := by
  refine ⟨fun _ ρ M hm hB hF hG => ?_, fun gi gv hg => (by cases hg)⟩
  have H := cr_340 M (ρ 0) (ρ 1) (ρ 2) (ρ 3) (ρ 4) (hB _ List.mem_cons_self) (hB _ (List.mem_cons_of_mem _ List.mem_cons_self)) (hB _ (List.mem_cons_of_mem _ (List.mem_cons_of_mem _ List.mem_cons_self))) (hB _ (List.mem_cons_of_mem _ (List.mem_cons_of_mem _ (List.mem_cons_of_mem _ List.mem_cons_self)))) (hB _ (List.mem_cons_of_mem _ (List.mem_cons_of_mem _ (List.mem_cons_of_mem _ (List.mem_cons_of_mem _ List.mem_cons_self))))) (cvp 277 (x' := (64 * (ρ 0) + (ρ 1))) (y' := (128 * (ρ 2) + (ρ 3))) (by show 0 + (64 * ρ 0 + (1 * ρ 1 + 0)) = _; omega) (by show 0 + (128 * ρ 2 + (1 * ρ 3 + 0)) = _; omega) (hm _ List.mem_cons_self)) (cvp 47 (x' := ((ρ 0))) (y' := ((ρ 4))) (by show 0 + (1 * ρ 0 + 0) = _; omega) (by show 0 + (1 * ρ 4 + 0) = _; omega) (hm _ (List.mem_cons_of_mem _ List.mem_cons_self))) (by have h := hF _ List.mem_cons_self; have h : 0 ≤ 262157 + ((-1) * ρ 4 + 0) := h; omega) hG
  obtain ⟨k0, -⟩ := H
  exact ⟨_, List.mem_cons_self, ρ, fun _ _ => rfl, (okM_c (pvp 277 (by show 262144 + (64 * ρ 0 + (1 * ρ 1 + 0)) = _; omega) (by show 0 + (128 * ρ 2 + (1 * ρ 3 + 0)) = _; omega) k0) okM_n), okB_n, okF_n⟩
-- rbz1
theorem cr_341 (M : pM) (s0 s1 s2 s3 s4 : Int) (b0 : 0 ≤ s0 ∧ s0 ≤ 1900) (b1 : 0 ≤ s1 ∧ s1 ≤ 60) (b2 : 0 ≤ s2 ∧ s2 ≤ 7) (b3 : 1 ≤ s3 ∧ s3 ≤ 80) (b4 : (-1) ≤ s4 ∧ s4 ≤ 600000) (m0 : HP 277 (64 * s0 + s1) (128 * s2 + s3) M) (m1 : HP 47 (s0) (s4) M) (f0 : 0 ≤ (s4 - 262160)) (f1 : 0 ≤ ((-1) * s4 + 524329)) (hG : gI M) : (HP 277 (64 * s0 + s1 + 262144) (128 * s2 + s3) M ∧ True) := by
  obtain ⟨k0, l1, h⟩ := rs_g (Eq.mp hp_277 m0) 0 s0.toNat s1.toNat s2.toNat s3.toNat (by unfold rix; omega) (by omega) (by omega) (by omega) (by omega)
  have kz : ltt (tm M) s0.toNat = 0 ∨ ltt (tm M) s0.toNat = 3 ∨ 7 ≤ ltt (tm M) s0.toNat := by
    unfold ltt
    rw [show tK (tm M) s0.toNat = _ from (q47 m1).2]
    unfold lty
    (repeat' split) <;> omega
  exact ⟨Eq.mpr hp_277 (rs_p (2 + 0) s0.toNat s1.toNat s2.toNat s3.toNat (by unfold rix; omega) (by omega) (by omega) (by omega) (by omega) (by omega) (by omega) (by omega) k0 rfl (rm_2 (r := 0) h (by decide) (by unfold grk; rw [if_neg (by omega)]) (fun q => by omega))), trivial⟩
theorem rul_341 : Rul r_341 := by
  refine ⟨fun _ ρ M hm hB hF hG => ?_, fun gi gv hg => (by cases hg)⟩
  have H := cr_341 M (ρ 0) (ρ 1) (ρ 2) (ρ 3) (ρ 4) (hB _ List.mem_cons_self) (hB _ (List.mem_cons_of_mem _ List.mem_cons_self)) (hB _ (List.mem_cons_of_mem _ (List.mem_cons_of_mem _ List.mem_cons_self))) (hB _ (List.mem_cons_of_mem _ (List.mem_cons_of_mem _ (List.mem_cons_of_mem _ List.mem_cons_self)))) (hB _ (List.mem_cons_of_mem _ (List.mem_cons_of_mem _ (List.mem_cons_of_mem _ (List.mem_cons_of_mem _ List.mem_cons_self))))) (cvp 277 (x' := (64 * (ρ 0) + (ρ 1))) (y' := (128 * (ρ 2) + (ρ 3))) (by show 0 + (64 * ρ 0 + (1 * ρ 1 + 0)) = _; omega) (by show 0 + (128 * ρ 2 + (1 * ρ 3 + 0)) = _; omega) (hm _ List.mem_cons_self)) (cvp 47 (x' := ((ρ 0))) (y' := ((ρ 4))) (by show 0 + (1 * ρ 0 + 0) = _; omega) (by show 0 + (1 * ρ 4 + 0) = _; omega) (hm _ (List.mem_cons_of_mem _ List.mem_cons_self))) (by have h := hF _ List.mem_cons_self; have h : 0 ≤ (-262160) + (1 * ρ 4 + 0) := h; omega) (by have h := hF _ (List.mem_cons_of_mem _ List.mem_cons_self); have h : 0 ≤ 524329 + ((-1) * ρ 4 + 0) := h; omega) hG
  obtain ⟨k0, -⟩ := H
  exact ⟨_, List.mem_cons_self, ρ, fun _ _ => rfl, (okM_c (pvp 277 (by show 262144 + (64 * ρ 0 + (1 * ρ 1 + 0)) = _; omega) (by show 0 + (128 * ρ 2 + (1 * ρ 3 + 0)) = _; omega) k0) okM_n), okB_n, okF_n⟩
-- rbz2
theorem cr_342 (M : pM) (s0 s1 s2 s3 s4 : Int) (b0 : 0 ≤ s0 ∧ s0 ≤ 1900) (b1 : 0 ≤ s1 ∧ s1 ≤ 60) (b2 : 0 ≤ s2 ∧ s2 ≤ 7) (b3 : 1 ≤ s3 ∧ s3 ≤ 80) (b4 : (-1) ≤ s4 ∧ s4 ≤ 600000) (m0 : HP 277 (64 * s0 + s1) (128 * s2 + s3) M) (m1 : HP 47 (s0) (s4) M) (f0 : 0 ≤ (s4 - 524332)) (f1 : 0 ≤ ((-1) * s4 + 524332)) (hG : gI M) : (HP 277 (64 * s0 + s1 + 262144) (128 * s2 + s3) M ∧ True) := by
  obtain ⟨k0, l1, h⟩ := rs_g (Eq.mp hp_277 m0) 0 s0.toNat s1.toNat s2.toNat s3.toNat (by unfold rix; omega) (by omega) (by omega) (by omega) (by omega)
  have kz : ltt (tm M) s0.toNat = 0 ∨ ltt (tm M) s0.toNat = 3 ∨ 7 ≤ ltt (tm M) s0.toNat := by
    unfold ltt
    rw [show tK (tm M) s0.toNat = _ from (q47 m1).2]
    unfold lty
    (repeat' split) <;> omega
  exact ⟨Eq.mpr hp_277 (rs_p (2 + 0) s0.toNat s1.toNat s2.toNat s3.toNat (by unfold rix; omega) (by omega) (by omega) (by omega) (by omega) (by omega) (by omega) (by omega) k0 rfl (rm_2 (r := 0) h (by decide) (by unfold grk; rw [if_neg (by omega)]) (fun q => by omega))), trivial⟩
theorem rul_342 : Rul r_342 := by
  refine ⟨fun _ ρ M hm hB hF hG => ?_, fun gi gv hg => (by cases hg)⟩
  have H := cr_342 M (ρ 0) (ρ 1) (ρ 2) (ρ 3) (ρ 4) (hB _ List.mem_cons_self) (hB _ (List.mem_cons_of_mem _ List.mem_cons_self)) (hB _ (List.mem_cons_of_mem _ (List.mem_cons_of_mem _ List.mem_cons_self))) (hB _ (List.mem_cons_of_mem _ (List.mem_cons_of_mem _ (List.mem_cons_of_mem _ List.mem_cons_self)))) (hB _ (List.mem_cons_of_mem _ (List.mem_cons_of_mem _ (List.mem_cons_of_mem _ (List.mem_cons_of_mem _ List.mem_cons_self))))) (cvp 277 (x' := (64 * (ρ 0) + (ρ 1))) (y' := (128 * (ρ 2) + (ρ 3))) (by show 0 + (64 * ρ 0 + (1 * ρ 1 + 0)) = _; omega) (by show 0 + (128 * ρ 2 + (1 * ρ 3 + 0)) = _; omega) (hm _ List.mem_cons_self)) (cvp 47 (x' := ((ρ 0))) (y' := ((ρ 4))) (by show 0 + (1 * ρ 0 + 0) = _; omega) (by show 0 + (1 * ρ 4 + 0) = _; omega) (hm _ (List.mem_cons_of_mem _ List.mem_cons_self))) (by have h := hF _ List.mem_cons_self; have h : 0 ≤ (-524332) + (1 * ρ 4 + 0) := h; omega) (by have h := hF _ (List.mem_cons_of_mem _ List.mem_cons_self); have h : 0 ≤ 524332 + ((-1) * ρ 4 + 0) := h; omega) hG
  obtain ⟨k0, -⟩ := H
  exact ⟨_, List.mem_cons_self, ρ, fun _ _ => rfl, (okM_c (pvp 277 (by show 262144 + (64 * ρ 0 + (1 * ρ 1 + 0)) = _; omega) (by show 0 + (128 * ρ 2 + (1 * ρ 3 + 0)) = _; omega) k0) okM_n), okB_n, okF_n⟩
-- rbz3
theorem cr_343 (M : pM) (s0 s1 s2 s3 s4 : Int) (b0 : 0 ≤ s0 ∧ s0 ≤ 1900) (b1 : 0 ≤ s1 ∧ s1 ≤ 60) (b2 : 0 ≤ s2 ∧ s2 ≤ 7) (b3 : 1 ≤ s3 ∧ s3 ≤ 80) (b4 : (-1) ≤ s4 ∧ s4 ≤ 600000) (m0 : HP 277 (64 * s0 + s1) (128 * s2 + s3) M) (m1 : HP 47 (s0) (s4) M) (f0 : 0 ≤ (s4 - 524334)) (f1 : 0 ≤ ((-1) * s4 + 524334)) (hG : gI M) : (HP 277 (64 * s0 + s1 + 262144) (128 * s2 + s3) M ∧ True) := by
  obtain ⟨k0, l1, h⟩ := rs_g (Eq.mp hp_277 m0) 0 s0.toNat s1.toNat s2.toNat s3.toNat (by unfold rix; omega) (by omega) (by omega) (by omega) (by omega)
  have kz : ltt (tm M) s0.toNat = 0 ∨ ltt (tm M) s0.toNat = 3 ∨ 7 ≤ ltt (tm M) s0.toNat := by
    unfold ltt
    rw [show tK (tm M) s0.toNat = _ from (q47 m1).2]
    unfold lty
    (repeat' split) <;> omega
  exact ⟨Eq.mpr hp_277 (rs_p (2 + 0) s0.toNat s1.toNat s2.toNat s3.toNat (by unfold rix; omega) (by omega) (by omega) (by omega) (by omega) (by omega) (by omega) (by omega) k0 rfl (rm_2 (r := 0) h (by decide) (by unfold grk; rw [if_neg (by omega)]) (fun q => by omega))), trivial⟩
theorem rul_343 : Rul r_343 := by
  refine ⟨fun _ ρ M hm hB hF hG => ?_, fun gi gv hg => (by cases hg)⟩
  have H := cr_343 M (ρ 0) (ρ 1) (ρ 2) (ρ 3) (ρ 4) (hB _ List.mem_cons_self) (hB _ (List.mem_cons_of_mem _ List.mem_cons_self)) (hB _ (List.mem_cons_of_mem _ (List.mem_cons_of_mem _ List.mem_cons_self))) (hB _ (List.mem_cons_of_mem _ (List.mem_cons_of_mem _ (List.mem_cons_of_mem _ List.mem_cons_self)))) (hB _ (List.mem_cons_of_mem _ (List.mem_cons_of_mem _ (List.mem_cons_of_mem _ (List.mem_cons_of_mem _ List.mem_cons_self))))) (cvp 277 (x' := (64 * (ρ 0) + (ρ 1))) (y' := (128 * (ρ 2) + (ρ 3))) (by show 0 + (64 * ρ 0 + (1 * ρ 1 + 0)) = _; omega) (by show 0 + (128 * ρ 2 + (1 * ρ 3 + 0)) = _; omega) (hm _ List.mem_cons_self)) (cvp 47 (x' := ((ρ 0))) (y' := ((ρ 4))) (by show 0 + (1 * ρ 0 + 0) = _; omega) (by show 0 + (1 * ρ 4 + 0) = _; omega) (hm _ (List.mem_cons_of_mem _ List.mem_cons_self))) (by have h := hF _ List.mem_cons_self; have h : 0 ≤ (-524334) + (1 * ρ 4 + 0) := h; omega) (by have h := hF _ (List.mem_cons_of_mem _ List.mem_cons_self); have h : 0 ≤ 524334 + ((-1) * ρ 4 + 0) := h; omega) hG
  obtain ⟨k0, -⟩ := H
  exact ⟨_, List.mem_cons_self, ρ, fun _ _ => rfl, (okM_c (pvp 277 (by show 262144 + (64 * ρ 0 + (1 * ρ 1 + 0)) = _; omega) (by show 0 + (128 * ρ 2 + (1 * ρ 3 + 0)) = _; omega) k0) okM_n), okB_n, okF_n⟩
-- rbz4
theorem cr_344 (M : pM) (s0 s1 s2 s3 s4 : Int) (b0 : 0 ≤ s0 ∧ s0 ≤ 1900) (b1 : 0 ≤ s1 ∧ s1 ≤ 60) (b2 : 0 ≤ s2 ∧ s2 ≤ 7) (b3 : 1 ≤ s3 ∧ s3 ≤ 80) (b4 : (-1) ≤ s4 ∧ s4 ≤ 600000) (m0 : HP 277 (64 * s0 + s1) (128 * s2 + s3) M) (m1 : HP 47 (s0) (s4) M) (f0 : 0 ≤ (s4 - 524336)) (f1 : 0 ≤ ((-1) * s4 + 524347)) (hG : gI M) : (HP 277 (64 * s0 + s1 + 262144) (128 * s2 + s3) M ∧ True) := by
  obtain ⟨k0, l1, h⟩ := rs_g (Eq.mp hp_277 m0) 0 s0.toNat s1.toNat s2.toNat s3.toNat (by unfold rix; omega) (by omega) (by omega) (by omega) (by omega)
  have kz : ltt (tm M) s0.toNat = 0 ∨ ltt (tm M) s0.toNat = 3 ∨ 7 ≤ ltt (tm M) s0.toNat := by
    unfold ltt
    rw [show tK (tm M) s0.toNat = _ from (q47 m1).2]
    unfold lty
    (repeat' split) <;> omega
  exact ⟨Eq.mpr hp_277 (rs_p (2 + 0) s0.toNat s1.toNat s2.toNat s3.toNat (by unfold rix; omega) (by omega) (by omega) (by omega) (by omega) (by omega) (by omega) (by omega) k0 rfl (rm_2 (r := 0) h (by decide) (by unfold grk; rw [if_neg (by omega)]) (fun q => by omega))), trivial⟩
theorem rul_344 : Rul r_344 := by
  refine ⟨fun _ ρ M hm hB hF hG => ?_, fun gi gv hg => (by cases hg)⟩
  have H := cr_344 M (ρ 0) (ρ 1) (ρ 2) (ρ 3) (ρ 4) (hB _ List.mem_cons_self) (hB _ (List.mem_cons_of_mem _ List.mem_cons_self)) (hB _ (List.mem_cons_of_mem _ (List.mem_cons_of_mem _ List.mem_cons_self))) (hB _ (List.mem_cons_of_mem _ (List.mem_cons_of_mem _ (List.mem_cons_of_mem _ List.mem_cons_self)))) (hB _ (List.mem_cons_of_mem _ (List.mem_cons_of_mem _ (List.mem_cons_of_mem _ (List.mem_cons_of_mem _ List.mem_cons_self))))) (cvp 277 (x' := (64 * (ρ 0) + (ρ 1))) (y' := (128 * (ρ 2) + (ρ 3))) (by show 0 + (64 * ρ 0 + (1 * ρ 1 + 0)) = _; omega) (by show 0 + (128 * ρ 2 + (1 * ρ 3 + 0)) = _; omega) (hm _ List.mem_cons_self)) (cvp 47 (x' := ((ρ 0))) (y' := ((ρ 4))) (by show 0 + (1 * ρ 0 + 0) = _; omega) (by show 0 + (1 * ρ 4 + 0) = _; omega) (hm _ (List.mem_cons_of_mem _ List.mem_cons_self))) (by have h := hF _ List.mem_cons_self; have h : 0 ≤ (-524336) + (1 * ρ 4 + 0) := h; omega) (by have h := hF _ (List.mem_cons_of_mem _ List.mem_cons_self); have h : 0 ≤ 524347 + ((-1) * ρ 4 + 0) := h; omega) hG
  obtain ⟨k0, -⟩ := H
  exact ⟨_, List.mem_cons_self, ρ, fun _ _ => rfl, (okM_c (pvp 277 (by show 262144 + (64 * ρ 0 + (1 * ρ 1 + 0)) = _; omega) (by show 0 + (128 * ρ 2 + (1 * ρ 3 + 0)) = _; omega) k0) okM_n), okB_n, okF_n⟩
-- rbz5
theorem cr_345 (M : pM) (s0 s1 s2 s3 s4 : Int) (b0 : 0 ≤ s0 ∧ s0 ≤ 1900) (b1 : 0 ≤ s1 ∧ s1 ≤ 60) (b2 : 0 ≤ s2 ∧ s2 ≤ 7) (b3 : 1 ≤ s3 ∧ s3 ≤ 80) (b4 : (-1) ≤ s4 ∧ s4 ≤ 600000) (m0 : HP 277 (64 * s0 + s1) (128 * s2 + s3) M) (m1 : HP 47 (s0) (s4) M) (f0 : 0 ≤ (s4 - 524351)) (hG : gI M) : (HP 277 (64 * s0 + s1 + 262144) (128 * s2 + s3) M ∧ True) := by
  obtain ⟨k0, l1, h⟩ := rs_g (Eq.mp hp_277 m0) 0 s0.toNat s1.toNat s2.toNat s3.toNat (by unfold rix; omega) (by omega) (by omega) (by omega) (by omega)
  have kz : ltt (tm M) s0.toNat = 0 ∨ ltt (tm M) s0.toNat = 3 ∨ 7 ≤ ltt (tm M) s0.toNat := by
    unfold ltt
    rw [show tK (tm M) s0.toNat = _ from (q47 m1).2]
    unfold lty
    (repeat' split) <;> omega
  exact ⟨Eq.mpr hp_277 (rs_p (2 + 0) s0.toNat s1.toNat s2.toNat s3.toNat (by unfold rix; omega) (by omega) (by omega) (by omega) (by omega) (by omega) (by omega) (by omega) k0 rfl (rm_2 (r := 0) h (by decide) (by unfold grk; rw [if_neg (by omega)]) (fun q => by omega))), trivial⟩
theorem rul_345 : Rul r_345 := by
  refine ⟨fun _ ρ M hm hB hF hG => ?_, fun gi gv hg => (by cases hg)⟩
  have H := cr_345 M (ρ 0) (ρ 1) (ρ 2) (ρ 3) (ρ 4) (hB _ List.mem_cons_self) (hB _ (List.mem_cons_of_mem _ List.mem_cons_self)) (hB _ (List.mem_cons_of_mem _ (List.mem_cons_of_mem _ List.mem_cons_self))) (hB _ (List.mem_cons_of_mem _ (List.mem_cons_of_mem _ (List.mem_cons_of_mem _ List.mem_cons_self)))) (hB _ (List.mem_cons_of_mem _ (List.mem_cons_of_mem _ (List.mem_cons_of_mem _ (List.mem_cons_of_mem _ List.mem_cons_self))))) (cvp 277 (x' := (64 * (ρ 0) + (ρ 1))) (y' := (128 * (ρ 2) + (ρ 3))) (by show 0 + (64 * ρ 0 + (1 * ρ 1 + 0)) = _; omega) (by show 0 + (128 * ρ 2 + (1 * ρ 3 + 0)) = _; omega) (hm _ List.mem_cons_self)) (cvp 47 (x' := ((ρ 0))) (y' := ((ρ 4))) (by show 0 + (1 * ρ 0 + 0) = _; omega) (by show 0 + (1 * ρ 4 + 0) = _; omega) (hm _ (List.mem_cons_of_mem _ List.mem_cons_self))) (by have h := hF _ List.mem_cons_self; have h : 0 ≤ (-524351) + (1 * ρ 4 + 0) := h; omega) hG
  obtain ⟨k0, -⟩ := H
  exact ⟨_, List.mem_cons_self, ρ, fun _ _ => rfl, (okM_c (pvp 277 (by show 262144 + (64 * ρ 0 + (1 * ρ 1 + 0)) = _; omega) (by show 0 + (128 * ρ 2 + (1 * ρ 3 + 0)) = _; omega) k0) okM_n), okB_n, okF_n⟩
-- rbo1
theorem cr_346 (M : pM) (s0 s1 s2 s3 : Int) (b0 : 0 ≤ s0 ∧ s0 ≤ 1900) (b1 : 0 ≤ s1 ∧ s1 ≤ 60) (b2 : 0 ≤ s2 ∧ s2 ≤ 7) (b3 : 1 ≤ s3 ∧ s3 ≤ 80) (m0 : HP 277 (64 * s0 + s1) (128 * s2 + s3) M) (m1 : HP 47 (s0) (262159 : Int) M) (hG : gI M) : (HP 277 (64 * s0 + s1 + 393216) (128 * s2 + s3) M ∧ True) := by
  obtain ⟨k0, l1, h⟩ := rs_g (Eq.mp hp_277 m0) 0 s0.toNat s1.toNat s2.toNat s3.toNat (by unfold rix; omega) (by omega) (by omega) (by omega) (by omega)
  have k : ltt (tm M) s0.toNat = 1 := by
    unfold ltt
    rw [show tK (tm M) s0.toNat = _ from (q47 m1).2]
    unfold lty
    (repeat' split) <;> omega
  exact ⟨Eq.mpr hp_277 (rs_p (2 + 1) s0.toNat s1.toNat s2.toNat s3.toNat (by unfold rix; omega) (by omega) (by omega) (by omega) (by omega) (by omega) (by omega) (by omega) k0 rfl (rm_2 (r := 1) h (by decide) (by rw [k]; decide) (fun q => by omega))), trivial⟩
theorem rul_346 : Rul r_346 := by
  refine ⟨fun _ ρ M hm hB hF hG => ?_, fun gi gv hg => (by cases hg)⟩
  have H := cr_346 M (ρ 0) (ρ 1) (ρ 2) (ρ 3) (hB _ List.mem_cons_self) (hB _ (List.mem_cons_of_mem _ List.mem_cons_self)) (hB _ (List.mem_cons_of_mem _ (List.mem_cons_of_mem _ List.mem_cons_self))) (hB _ (List.mem_cons_of_mem _ (List.mem_cons_of_mem _ (List.mem_cons_of_mem _ List.mem_cons_self)))) (cvp 277 (x' := (64 * (ρ 0) + (ρ 1))) (y' := (128 * (ρ 2) + (ρ 3))) (by show 0 + (64 * ρ 0 + (1 * ρ 1 + 0)) = _; omega) (by show 0 + (128 * ρ 2 + (1 * ρ 3 + 0)) = _; omega) (hm _ List.mem_cons_self)) (cvp 47 (x' := ((ρ 0))) (y' := (262159 : Int)) (by show 0 + (1 * ρ 0 + 0) = _; omega) (by show 262159 + 0 = _; omega) (hm _ (List.mem_cons_of_mem _ List.mem_cons_self))) hG
  obtain ⟨k0, -⟩ := H
  exact ⟨_, List.mem_cons_self, ρ, fun _ _ => rfl, (okM_c (pvp 277 (by show 393216 + (64 * ρ 0 + (1 * ρ 1 + 0)) = _; omega) (by show 0 + (128 * ρ 2 + (1 * ρ 3 + 0)) = _; omega) k0) okM_n), okB_n, okF_n⟩
-- rbo2
theorem cr_347 (M : pM) (s0 s1 s2 s3 : Int) (b0 : 0 ≤ s0 ∧ s0 ≤ 1900) (b1 : 0 ≤ s1 ∧ s1 ≤ 60) (b2 : 0 ≤ s2 ∧ s2 ≤ 7) (b3 : 1 ≤ s3 ∧ s3 ≤ 80) (m0 : HP 277 (64 * s0 + s1) (128 * s2 + s3) M) (m1 : HP 47 (s0) (262158 : Int) M) (hG : gI M) : (HP 277 (64 * s0 + s1 + 524288) (128 * s2 + s3) M ∧ True) := by
  obtain ⟨k0, l1, h⟩ := rs_g (Eq.mp hp_277 m0) 0 s0.toNat s1.toNat s2.toNat s3.toNat (by unfold rix; omega) (by omega) (by omega) (by omega) (by omega)
  have k : ltt (tm M) s0.toNat = 2 := by
    unfold ltt
    rw [show tK (tm M) s0.toNat = _ from (q47 m1).2]
    unfold lty
    (repeat' split) <;> omega
  exact ⟨Eq.mpr hp_277 (rs_p (2 + 2) s0.toNat s1.toNat s2.toNat s3.toNat (by unfold rix; omega) (by omega) (by omega) (by omega) (by omega) (by omega) (by omega) (by omega) k0 rfl (rm_2 (r := 2) h (by decide) (by rw [k]; decide) (fun q => by omega))), trivial⟩
theorem rul_347 : Rul r_347 := by
  refine ⟨fun _ ρ M hm hB hF hG => ?_, fun gi gv hg => (by cases hg)⟩
  have H := cr_347 M (ρ 0) (ρ 1) (ρ 2) (ρ 3) (hB _ List.mem_cons_self) (hB _ (List.mem_cons_of_mem _ List.mem_cons_self)) (hB _ (List.mem_cons_of_mem _ (List.mem_cons_of_mem _ List.mem_cons_self))) (hB _ (List.mem_cons_of_mem _ (List.mem_cons_of_mem _ (List.mem_cons_of_mem _ List.mem_cons_self)))) (cvp 277 (x' := (64 * (ρ 0) + (ρ 1))) (y' := (128 * (ρ 2) + (ρ 3))) (by show 0 + (64 * ρ 0 + (1 * ρ 1 + 0)) = _; omega) (by show 0 + (128 * ρ 2 + (1 * ρ 3 + 0)) = _; omega) (hm _ List.mem_cons_self)) (cvp 47 (x' := ((ρ 0))) (y' := (262158 : Int)) (by show 0 + (1 * ρ 0 + 0) = _; omega) (by show 262158 + 0 = _; omega) (hm _ (List.mem_cons_of_mem _ List.mem_cons_self))) hG
  obtain ⟨k0, -⟩ := H
  exact ⟨_, List.mem_cons_self, ρ, fun _ _ => rfl, (okM_c (pvp 277 (by show 524288 + (64 * ρ 0 + (1 * ρ 1 + 0)) = _; omega) (by show 0 + (128 * ρ 2 + (1 * ρ 3 + 0)) = _; omega) k0) okM_n), okB_n, okF_n⟩
-- rbo5
theorem cr_348 (M : pM) (s0 s1 s2 s3 : Int) (b0 : 0 ≤ s0 ∧ s0 ≤ 1900) (b1 : 0 ≤ s1 ∧ s1 ≤ 60) (b2 : 0 ≤ s2 ∧ s2 ≤ 7) (b3 : 1 ≤ s3 ∧ s3 ≤ 80) (m0 : HP 277 (64 * s0 + s1) (128 * s2 + s3) M) (m1 : HP 47 (s0) (524331 : Int) M) (hG : gI M) : (HP 277 (64 * s0 + s1 + 917504) (128 * s2 + s3) M ∧ True) := by
  obtain ⟨k0, l1, h⟩ := rs_g (Eq.mp hp_277 m0) 0 s0.toNat s1.toNat s2.toNat s3.toNat (by unfold rix; omega) (by omega) (by omega) (by omega) (by omega)
  have k : ltt (tm M) s0.toNat = 5 := by
    unfold ltt
    rw [show tK (tm M) s0.toNat = _ from (q47 m1).2]
    unfold lty
    (repeat' split) <;> omega
  exact ⟨Eq.mpr hp_277 (rs_p (2 + 5) s0.toNat s1.toNat s2.toNat s3.toNat (by unfold rix; omega) (by omega) (by omega) (by omega) (by omega) (by omega) (by omega) (by omega) k0 rfl (rm_2 (r := 5) h (by decide) (by rw [k]; decide) (fun q => by omega))), trivial⟩
theorem rul_348 : Rul r_348 := by
  refine ⟨fun _ ρ M hm hB hF hG => ?_, fun gi gv hg => (by cases hg)⟩
  have H := cr_348 M (ρ 0) (ρ 1) (ρ 2) (ρ 3) (hB _ List.mem_cons_self) (hB _ (List.mem_cons_of_mem _ List.mem_cons_self)) (hB _ (List.mem_cons_of_mem _ (List.mem_cons_of_mem _ List.mem_cons_self))) (hB _ (List.mem_cons_of_mem _ (List.mem_cons_of_mem _ (List.mem_cons_of_mem _ List.mem_cons_self)))) (cvp 277 (x' := (64 * (ρ 0) + (ρ 1))) (y' := (128 * (ρ 2) + (ρ 3))) (by show 0 + (64 * ρ 0 + (1 * ρ 1 + 0)) = _; omega) (by show 0 + (128 * ρ 2 + (1 * ρ 3 + 0)) = _; omega) (hm _ List.mem_cons_self)) (cvp 47 (x' := ((ρ 0))) (y' := (524331 : Int)) (by show 0 + (1 * ρ 0 + 0) = _; omega) (by show 524331 + 0 = _; omega) (hm _ (List.mem_cons_of_mem _ List.mem_cons_self))) hG
  obtain ⟨k0, -⟩ := H
  exact ⟨_, List.mem_cons_self, ρ, fun _ _ => rfl, (okM_c (pvp 277 (by show 917504 + (64 * ρ 0 + (1 * ρ 1 + 0)) = _; omega) (by show 0 + (128 * ρ 2 + (1 * ρ 3 + 0)) = _; omega) k0) okM_n), okB_n, okF_n⟩
-- rbo5b
theorem cr_349 (M : pM) (s0 s1 s2 s3 : Int) (b0 : 0 ≤ s0 ∧ s0 ≤ 1900) (b1 : 0 ≤ s1 ∧ s1 ≤ 60) (b2 : 0 ≤ s2 ∧ s2 ≤ 7) (b3 : 1 ≤ s3 ∧ s3 ≤ 80) (m0 : HP 277 (64 * s0 + s1) (128 * s2 + s3) M) (m1 : HP 47 (s0) (524333 : Int) M) (hG : gI M) : (HP 277 (64 * s0 + s1 + 917504) (128 * s2 + s3) M ∧ True) := by
  obtain ⟨k0, l1, h⟩ := rs_g (Eq.mp hp_277 m0) 0 s0.toNat s1.toNat s2.toNat s3.toNat (by unfold rix; omega) (by omega) (by omega) (by omega) (by omega)
  have k : ltt (tm M) s0.toNat = 5 := by
    unfold ltt
    rw [show tK (tm M) s0.toNat = _ from (q47 m1).2]
    unfold lty
    (repeat' split) <;> omega
  exact ⟨Eq.mpr hp_277 (rs_p (2 + 5) s0.toNat s1.toNat s2.toNat s3.toNat (by unfold rix; omega) (by omega) (by omega) (by omega) (by omega) (by omega) (by omega) (by omega) k0 rfl (rm_2 (r := 5) h (by decide) (by rw [k]; decide) (fun q => by omega))), trivial⟩
theorem rul_349 : Rul r_349 := by
  refine ⟨fun _ ρ M hm hB hF hG => ?_, fun gi gv hg => (by cases hg)⟩
  have H := cr_349 M (ρ 0) (ρ 1) (ρ 2) (ρ 3) (hB _ List.mem_cons_self) (hB _ (List.mem_cons_of_mem _ List.mem_cons_self)) (hB _ (List.mem_cons_of_mem _ (List.mem_cons_of_mem _ List.mem_cons_self))) (hB _ (List.mem_cons_of_mem _ (List.mem_cons_of_mem _ (List.mem_cons_of_mem _ List.mem_cons_self)))) (cvp 277 (x' := (64 * (ρ 0) + (ρ 1))) (y' := (128 * (ρ 2) + (ρ 3))) (by show 0 + (64 * ρ 0 + (1 * ρ 1 + 0)) = _; omega) (by show 0 + (128 * ρ 2 + (1 * ρ 3 + 0)) = _; omega) (hm _ List.mem_cons_self)) (cvp 47 (x' := ((ρ 0))) (y' := (524333 : Int)) (by show 0 + (1 * ρ 0 + 0) = _; omega) (by show 524333 + 0 = _; omega) (hm _ (List.mem_cons_of_mem _ List.mem_cons_self))) hG
  obtain ⟨k0, -⟩ := H
  exact ⟨_, List.mem_cons_self, ρ, fun _ _ => rfl, (okM_c (pvp 277 (by show 917504 + (64 * ρ 0 + (1 * ρ 1 + 0)) = _; omega) (by show 0 + (128 * ρ 2 + (1 * ρ 3 + 0)) = _; omega) k0) okM_n), okB_n, okF_n⟩
-- rbo6
theorem cr_350 (M : pM) (s0 s1 s2 s3 : Int) (b0 : 0 ≤ s0 ∧ s0 ≤ 1900) (b1 : 0 ≤ s1 ∧ s1 ≤ 60) (b2 : 0 ≤ s2 ∧ s2 ≤ 7) (b3 : 1 ≤ s3 ∧ s3 ≤ 80) (m0 : HP 277 (64 * s0 + s1) (128 * s2 + s3) M) (m1 : HP 47 (s0) (524330 : Int) M) (hG : gI M) : (HP 277 (64 * s0 + s1 + 1048576) (128 * s2 + s3) M ∧ True) := by
  obtain ⟨k0, l1, h⟩ := rs_g (Eq.mp hp_277 m0) 0 s0.toNat s1.toNat s2.toNat s3.toNat (by unfold rix; omega) (by omega) (by omega) (by omega) (by omega)
  have k : ltt (tm M) s0.toNat = 6 := by
    unfold ltt
    rw [show tK (tm M) s0.toNat = _ from (q47 m1).2]
    unfold lty
    (repeat' split) <;> omega
  exact ⟨Eq.mpr hp_277 (rs_p (2 + 6) s0.toNat s1.toNat s2.toNat s3.toNat (by unfold rix; omega) (by omega) (by omega) (by omega) (by omega) (by omega) (by omega) (by omega) k0 rfl (rm_2 (r := 6) h (by decide) (by rw [k]; decide) (fun q => by omega))), trivial⟩
theorem rul_350 : Rul r_350 := by
  refine ⟨fun _ ρ M hm hB hF hG => ?_, fun gi gv hg => (by cases hg)⟩
  have H := cr_350 M (ρ 0) (ρ 1) (ρ 2) (ρ 3) (hB _ List.mem_cons_self) (hB _ (List.mem_cons_of_mem _ List.mem_cons_self)) (hB _ (List.mem_cons_of_mem _ (List.mem_cons_of_mem _ List.mem_cons_self))) (hB _ (List.mem_cons_of_mem _ (List.mem_cons_of_mem _ (List.mem_cons_of_mem _ List.mem_cons_self)))) (cvp 277 (x' := (64 * (ρ 0) + (ρ 1))) (y' := (128 * (ρ 2) + (ρ 3))) (by show 0 + (64 * ρ 0 + (1 * ρ 1 + 0)) = _; omega) (by show 0 + (128 * ρ 2 + (1 * ρ 3 + 0)) = _; omega) (hm _ List.mem_cons_self)) (cvp 47 (x' := ((ρ 0))) (y' := (524330 : Int)) (by show 0 + (1 * ρ 0 + 0) = _; omega) (by show 524330 + 0 = _; omega) (hm _ (List.mem_cons_of_mem _ List.mem_cons_self))) hG
  obtain ⟨k0, -⟩ := H
  exact ⟨_, List.mem_cons_self, ρ, fun _ _ => rfl, (okM_c (pvp 277 (by show 1048576 + (64 * ρ 0 + (1 * ρ 1 + 0)) = _; omega) (by show 0 + (128 * ρ 2 + (1 * ρ 3 + 0)) = _; omega) k0) okM_n), okB_n, okF_n⟩
-- rbo6b
theorem cr_351 (M : pM) (s0 s1 s2 s3 : Int) (b0 : 0 ≤ s0 ∧ s0 ≤ 1900) (b1 : 0 ≤ s1 ∧ s1 ≤ 60) (b2 : 0 ≤ s2 ∧ s2 ≤ 7) (b3 : 1 ≤ s3 ∧ s3 ≤ 80) (m0 : HP 277 (64 * s0 + s1) (128 * s2 + s3) M) (m1 : HP 47 (s0) (524335 : Int) M) (hG : gI M) : (HP 277 (64 * s0 + s1 + 1048576) (128 * s2 + s3) M ∧ True) := by
  obtain ⟨k0, l1, h⟩ := rs_g (Eq.mp hp_277 m0) 0 s0.toNat s1.toNat s2.toNat s3.toNat (by unfold rix; omega) (by omega) (by omega) (by omega) (by omega)
  have k : ltt (tm M) s0.toNat = 6 := by
    unfold ltt
    rw [show tK (tm M) s0.toNat = _ from (q47 m1).2]
    unfold lty
    (repeat' split) <;> omega
  exact ⟨Eq.mpr hp_277 (rs_p (2 + 6) s0.toNat s1.toNat s2.toNat s3.toNat (by unfold rix; omega) (by omega) (by omega) (by omega) (by omega) (by omega) (by omega) (by omega) k0 rfl (rm_2 (r := 6) h (by decide) (by rw [k]; decide) (fun q => by omega))), trivial⟩
theorem rul_351 : Rul r_351 := by
  refine ⟨fun _ ρ M hm hB hF hG => ?_, fun gi gv hg => (by cases hg)⟩
  have H := cr_351 M (ρ 0) (ρ 1) (ρ 2) (ρ 3) (hB _ List.mem_cons_self) (hB _ (List.mem_cons_of_mem _ List.mem_cons_self)) (hB _ (List.mem_cons_of_mem _ (List.mem_cons_of_mem _ List.mem_cons_self))) (hB _ (List.mem_cons_of_mem _ (List.mem_cons_of_mem _ (List.mem_cons_of_mem _ List.mem_cons_self)))) (cvp 277 (x' := (64 * (ρ 0) + (ρ 1))) (y' := (128 * (ρ 2) + (ρ 3))) (by show 0 + (64 * ρ 0 + (1 * ρ 1 + 0)) = _; omega) (by show 0 + (128 * ρ 2 + (1 * ρ 3 + 0)) = _; omega) (hm _ List.mem_cons_self)) (cvp 47 (x' := ((ρ 0))) (y' := (524335 : Int)) (by show 0 + (1 * ρ 0 + 0) = _; omega) (by show 524335 + 0 = _; omega) (hm _ (List.mem_cons_of_mem _ List.mem_cons_self))) hG
  obtain ⟨k0, -⟩ := H
  exact ⟨_, List.mem_cons_self, ρ, fun _ _ => rfl, (okM_c (pvp 277 (by show 1048576 + (64 * ρ 0 + (1 * ρ 1 + 0)) = _; omega) (by show 0 + (128 * ρ 2 + (1 * ρ 3 + 0)) = _; omega) k0) okM_n), okB_n, okF_n⟩
-- rbc
theorem cr_352 (M : pM) (s0 s1 s2 s3 s4 : Int) (b0 : 0 ≤ s0 ∧ s0 ≤ 1900) (b1 : 0 ≤ s1 ∧ s1 ≤ 60) (b2 : 0 ≤ s2 ∧ s2 ≤ 7) (b3 : 1 ≤ s3 ∧ s3 ≤ 80) (b4 : (-1) ≤ s4 ∧ s4 ≤ 600000) (m0 : HP 277 (64 * s0 + s1) (128 * s2 + s3) M) (m1 : HP 47 (s0) (s4) M) (m2 : HP 283 (s3) (0 : Int) M) (f0 : 0 ≤ (s4 - 524348)) (f1 : 0 ≤ ((-1) * s4 + 524350)) (hG : gI M) : (HP 277 (64 * s0 + s1 + 786432) (128 * s2 + s3) M ∧ True) := by
  obtain ⟨k0, l1, h⟩ := rs_g (Eq.mp hp_277 m0) 0 s0.toNat s1.toNat s2.toNat s3.toNat (by unfold rix; omega) (by omega) (by omega) (by omega) (by omega)
  have k : ltt (tm M) s0.toNat = 4 := by
    unfold ltt
    rw [show tK (tm M) s0.toNat = _ from (q47 m1).2]
    unfold lty
    (repeat' split) <;> omega
  have hi := (ir_g (Eq.mp hp_283 m2) s3.toNat (by omega)).2 (by omega)
  exact ⟨Eq.mpr hp_277 (rs_p (2 + 4) s0.toNat s1.toNat s2.toNat s3.toNat (by unfold rix; omega) (by omega) (by omega) (by omega) (by omega) (by omega) (by omega) (by omega) k0 rfl (rm_2 (r := 4) h (by decide) (by rw [k]; decide) (fun _ => hi))), trivial⟩
theorem rul_352 : Rul r_352 := by
  refine ⟨fun _ ρ M hm hB hF hG => ?_, fun gi gv hg => (by cases hg)⟩
  have H := cr_352 M (ρ 0) (ρ 1) (ρ 2) (ρ 3) (ρ 4) (hB _ List.mem_cons_self) (hB _ (List.mem_cons_of_mem _ List.mem_cons_self)) (hB _ (List.mem_cons_of_mem _ (List.mem_cons_of_mem _ List.mem_cons_self))) (hB _ (List.mem_cons_of_mem _ (List.mem_cons_of_mem _ (List.mem_cons_of_mem _ List.mem_cons_self)))) (hB _ (List.mem_cons_of_mem _ (List.mem_cons_of_mem _ (List.mem_cons_of_mem _ (List.mem_cons_of_mem _ List.mem_cons_self))))) (cvp 277 (x' := (64 * (ρ 0) + (ρ 1))) (y' := (128 * (ρ 2) + (ρ 3))) (by show 0 + (64 * ρ 0 + (1 * ρ 1 + 0)) = _; omega) (by show 0 + (128 * ρ 2 + (1 * ρ 3 + 0)) = _; omega) (hm _ List.mem_cons_self)) (cvp 47 (x' := ((ρ 0))) (y' := ((ρ 4))) (by show 0 + (1 * ρ 0 + 0) = _; omega) (by show 0 + (1 * ρ 4 + 0) = _; omega) (hm _ (List.mem_cons_of_mem _ List.mem_cons_self))) (cvp 283 (x' := ((ρ 3))) (y' := (0 : Int)) (by show 0 + (1 * ρ 3 + 0) = _; omega) (by show 0 + 0 = _; omega) (hm _ (List.mem_cons_of_mem _ (List.mem_cons_of_mem _ List.mem_cons_self)))) (by have h := hF _ List.mem_cons_self; have h : 0 ≤ (-524348) + (1 * ρ 4 + 0) := h; omega) (by have h := hF _ (List.mem_cons_of_mem _ List.mem_cons_self); have h : 0 ≤ 524350 + ((-1) * ρ 4 + 0) := h; omega) hG
  obtain ⟨k0, -⟩ := H
  exact ⟨_, List.mem_cons_self, ρ, fun _ _ => rfl, (okM_c (pvp 277 (by show 786432 + (64 * ρ 0 + (1 * ρ 1 + 0)) = _; omega) (by show 0 + (128 * ρ 2 + (1 * ρ 3 + 0)) = _; omega) k0) okM_n), okB_n, okF_n⟩
-- rbe
theorem cr_353 (M : pM) (s0 s1 s2 s3 s4 : Int) (b0 : 0 ≤ s0 ∧ s0 ≤ 1900) (b1 : 0 ≤ s1 ∧ s1 ≤ 60) (b2 : 0 ≤ s2 ∧ s2 ≤ 7) (b3 : 1 ≤ s3 ∧ s3 ≤ 80) (b4 : (-1) ≤ s4 ∧ s4 ≤ 600000) (m0 : HP 277 (64 * s0 + s1) (128 * s2 + s3) M) (m1 : HP 47 (s0) (s4) M) (m2 : HP 283 (s3) (1 : Int) M) (f0 : 0 ≤ (s4 - 524348)) (f1 : 0 ≤ ((-1) * s4 + 524350)) (hG : gI M) : (HP 280 (0 : Int) (s0) M ∧ True) := by
  obtain ⟨k0, l1, h⟩ := rs_g (Eq.mp hp_277 m0) 0 s0.toNat s1.toNat s2.toNat s3.toNat (by unfold rix; omega) (by omega) (by omega) (by omega) (by omega)
  have k : ltt (tm M) s0.toNat = 4 := by
    unfold ltt
    rw [show tK (tm M) s0.toNat = _ from (q47 m1).2]
    unfold lty
    (repeat' split) <;> omega
  have hi := (ir_g (Eq.mp hp_283 m2) s3.toNat (by omega)).1 (by omega)
  exact ⟨Eq.mpr hp_280 (Or.inr (Or.inl ⟨k0, s0.toNat, by omega, rm_be h k hi⟩)), trivial⟩
theorem rul_353 : Rul r_353 := by
  refine ⟨fun _ ρ M hm hB hF hG => ?_, fun gi gv hg => (by cases hg)⟩
  have H := cr_353 M (ρ 0) (ρ 1) (ρ 2) (ρ 3) (ρ 4) (hB _ List.mem_cons_self) (hB _ (List.mem_cons_of_mem _ List.mem_cons_self)) (hB _ (List.mem_cons_of_mem _ (List.mem_cons_of_mem _ List.mem_cons_self))) (hB _ (List.mem_cons_of_mem _ (List.mem_cons_of_mem _ (List.mem_cons_of_mem _ List.mem_cons_self)))) (hB _ (List.mem_cons_of_mem _ (List.mem_cons_of_mem _ (List.mem_cons_of_mem _ (List.mem_cons_of_mem _ List.mem_cons_self))))) (cvp 277 (x' := (64 * (ρ 0) + (ρ 1))) (y' := (128 * (ρ 2) + (ρ 3))) (by show 0 + (64 * ρ 0 + (1 * ρ 1 + 0)) = _; omega) (by show 0 + (128 * ρ 2 + (1 * ρ 3 + 0)) = _; omega) (hm _ List.mem_cons_self)) (cvp 47 (x' := ((ρ 0))) (y' := ((ρ 4))) (by show 0 + (1 * ρ 0 + 0) = _; omega) (by show 0 + (1 * ρ 4 + 0) = _; omega) (hm _ (List.mem_cons_of_mem _ List.mem_cons_self))) (cvp 283 (x' := ((ρ 3))) (y' := (1 : Int)) (by show 0 + (1 * ρ 3 + 0) = _; omega) (by show 1 + 0 = _; omega) (hm _ (List.mem_cons_of_mem _ (List.mem_cons_of_mem _ List.mem_cons_self)))) (by have h := hF _ List.mem_cons_self; have h : 0 ≤ (-524348) + (1 * ρ 4 + 0) := h; omega) (by have h := hF _ (List.mem_cons_of_mem _ List.mem_cons_self); have h : 0 ≤ 524350 + ((-1) * ρ 4 + 0) := h; omega) hG
  obtain ⟨k0, -⟩ := H
  exact ⟨_, List.mem_cons_self, ρ, fun _ _ => rfl, (okM_c (pvp 280 (by show 0 + 0 = _; omega) (by show 0 + (1 * ρ 0 + 0) = _; omega) k0) okM_n), okB_n, okF_n⟩
-- ic0
theorem cr_354 (M : pM) (s0 : Int) (b0 : 1 ≤ s0 ∧ s0 ≤ 80) (hG : gI M) : (HP 282 (s0) (s0 - 1) M ∧ True) := by
  exact ⟨Eq.mpr hp_282 ⟨s0.toNat, s0.toNat - 1, by omega, by omega, by omega, by omega, by rw [show s0.toNat - 1 + 1 = s0.toNat by omega]⟩, trivial⟩
theorem rul_354 : Rul r_354 := by
  refine ⟨fun _ ρ M hm hB hF hG => ?_, fun gi gv hg => (by cases hg)⟩
  have H := cr_354 M (ρ 0) (hB _ List.mem_cons_self) hG
  obtain ⟨k0, -⟩ := H
  exact ⟨_, List.mem_cons_self, ρ, fun _ _ => rfl, (okM_c (pvp 282 (by show 0 + (1 * ρ 0 + 0) = _; omega) (by show (-1) + (1 * ρ 0 + 0) = _; omega) k0) okM_n), okB_n, okF_n⟩
-- icn
theorem cr_355 (M : pM) (s0 s1 s2 : Int) (b0 : 1 ≤ s0 ∧ s0 ≤ 80) (b1 : 0 ≤ s1 ∧ s1 ≤ 79) (b2 : 0 ≤ s2 ∧ s2 ≤ 8) (m0 : HP 282 (s0) (s1) M) (m1 : (0 ≤ (s1) ∧ M 111 (s1).toNat = (s2))) (f0 : 0 ≤ (s2 - 5)) (f1 : 0 ≤ ((-1) * s2 + 6)) (f2 : 0 ≤ (s1 - 1)) (hG : gI M) : (HP 282 (s0) (s1 - 1) M ∧ True) := by
  obtain ⟨c1, c2⟩ := ic_g (Eq.mp hp_282 m0) s0.toNat s1.toNat (by omega) (by omega)
  have hw : M 111 s1.toNat = ((s2.toNat : Nat) : Int) := by
    rw [m1.2]
    omega
  exact ⟨Eq.mpr hp_282 ⟨s0.toNat, s1.toNat - 1, by omega, by omega, by omega, by omega, by rw [show s1.toNat - 1 + 1 = s1.toNat by omega]; exact c2.trans (gck_n hw (by omega))⟩, trivial⟩
theorem rul_355 : Rul r_355 := by
  refine ⟨fun _ ρ M hm hB hF hG => ?_, fun gi gv hg => (by cases hg)⟩
  have H := cr_355 M (ρ 0) (ρ 1) (ρ 2) (hB _ List.mem_cons_self) (hB _ (List.mem_cons_of_mem _ List.mem_cons_self)) (hB _ (List.mem_cons_of_mem _ (List.mem_cons_of_mem _ List.mem_cons_self))) (cvp 282 (x' := ((ρ 0))) (y' := ((ρ 1))) (by show 0 + (1 * ρ 0 + 0) = _; omega) (by show 0 + (1 * ρ 1 + 0) = _; omega) (hm _ List.mem_cons_self)) (cvm (c := 111) (by decide) (x' := ((ρ 1))) (y' := ((ρ 2))) (by show 0 + (1 * ρ 1 + 0) = _; omega) (by show 0 + (1 * ρ 2 + 0) = _; omega) (hm _ (List.mem_cons_of_mem _ List.mem_cons_self))) (by have h := hF _ List.mem_cons_self; have h : 0 ≤ (-5) + (1 * ρ 2 + 0) := h; omega) (by have h := hF _ (List.mem_cons_of_mem _ List.mem_cons_self); have h : 0 ≤ 6 + ((-1) * ρ 2 + 0) := h; omega) (by have h := hF _ (List.mem_cons_of_mem _ (List.mem_cons_of_mem _ List.mem_cons_self)); have h : 0 ≤ (-1) + (1 * ρ 1 + 0) := h; omega) hG
  obtain ⟨k0, -⟩ := H
  exact ⟨_, List.mem_cons_self, ρ, fun _ _ => rfl, (okM_c (pvp 282 (by show 0 + (1 * ρ 0 + 0) = _; omega) (by show (-1) + (1 * ρ 1 + 0) = _; omega) k0) okM_n), okB_n, okF_n⟩
-- ice0
theorem cr_356 (M : pM) (s0 s1 s2 : Int) (b0 : 1 ≤ s0 ∧ s0 ≤ 80) (b1 : 0 ≤ s1 ∧ s1 ≤ 79) (b2 : 0 ≤ s2 ∧ s2 ≤ 8) (m0 : HP 282 (s0) (s1) M) (m1 : (0 ≤ (s1) ∧ M 111 (s1).toNat = (s2))) (f0 : 0 ≤ ((-1) * s2 + 3)) (hG : gI M) : (HP 283 (s0) (0 : Int) M ∧ True) := by
  obtain ⟨c1, c2⟩ := ic_g (Eq.mp hp_282 m0) s0.toNat s1.toNat (by omega) (by omega)
  have hw : M 111 s1.toNat = ((s2.toNat : Nat) : Int) := by
    rw [m1.2]
    omega
  exact ⟨Eq.mpr hp_283 ⟨s0.toNat, by omega, by omega, Or.inr ⟨by omega, (c2.trans (gck_e hw (by omega))).trans (decide_eq_false (by omega))⟩⟩, trivial⟩
theorem rul_356 : Rul r_356 := by
  refine ⟨fun _ ρ M hm hB hF hG => ?_, fun gi gv hg => (by cases hg)⟩
  have H := cr_356 M (ρ 0) (ρ 1) (ρ 2) (hB _ List.mem_cons_self) (hB _ (List.mem_cons_of_mem _ List.mem_cons_self)) (hB _ (List.mem_cons_of_mem _ (List.mem_cons_of_mem _ List.mem_cons_self))) (cvp 282 (x' := ((ρ 0))) (y' := ((ρ 1))) (by show 0 + (1 * ρ 0 + 0) = _; omega) (by show 0 + (1 * ρ 1 + 0) = _; omega) (hm _ List.mem_cons_self)) (cvm (c := 111) (by decide) (x' := ((ρ 1))) (y' := ((ρ 2))) (by show 0 + (1 * ρ 1 + 0) = _; omega) (by show 0 + (1 * ρ 2 + 0) = _; omega) (hm _ (List.mem_cons_of_mem _ List.mem_cons_self))) (by have h := hF _ List.mem_cons_self; have h : 0 ≤ 3 + ((-1) * ρ 2 + 0) := h; omega) hG
  obtain ⟨k0, -⟩ := H
  exact ⟨_, List.mem_cons_self, ρ, fun _ _ => rfl, (okM_c (pvp 283 (by show 0 + (1 * ρ 0 + 0) = _; omega) (by show 0 + 0 = _; omega) k0) okM_n), okB_n, okF_n⟩
-- ice1
theorem cr_357 (M : pM) (s0 s1 s2 : Int) (b0 : 1 ≤ s0 ∧ s0 ≤ 80) (b1 : 0 ≤ s1 ∧ s1 ≤ 79) (b2 : 0 ≤ s2 ∧ s2 ≤ 8) (m0 : HP 282 (s0) (s1) M) (m1 : (0 ≤ (s1) ∧ M 111 (s1).toNat = (s2))) (f0 : 0 ≤ (s2 - 7)) (hG : gI M) : (HP 283 (s0) (0 : Int) M ∧ True) := by
  obtain ⟨c1, c2⟩ := ic_g (Eq.mp hp_282 m0) s0.toNat s1.toNat (by omega) (by omega)
  have hw : M 111 s1.toNat = ((s2.toNat : Nat) : Int) := by
    rw [m1.2]
    omega
  exact ⟨Eq.mpr hp_283 ⟨s0.toNat, by omega, by omega, Or.inr ⟨by omega, (c2.trans (gck_e hw (by omega))).trans (decide_eq_false (by omega))⟩⟩, trivial⟩
theorem rul_357 : Rul r_357 := by
  refine ⟨fun _ ρ M hm hB hF hG => ?_, fun gi gv hg => (by cases hg)⟩
  have H := cr_357 M (ρ 0) (ρ 1) (ρ 2) (hB _ List.mem_cons_self) (hB _ (List.mem_cons_of_mem _ List.mem_cons_self)) (hB _ (List.mem_cons_of_mem _ (List.mem_cons_of_mem _ List.mem_cons_self))) (cvp 282 (x' := ((ρ 0))) (y' := ((ρ 1))) (by show 0 + (1 * ρ 0 + 0) = _; omega) (by show 0 + (1 * ρ 1 + 0) = _; omega) (hm _ List.mem_cons_self)) (cvm (c := 111) (by decide) (x' := ((ρ 1))) (y' := ((ρ 2))) (by show 0 + (1 * ρ 1 + 0) = _; omega) (by show 0 + (1 * ρ 2 + 0) = _; omega) (hm _ (List.mem_cons_of_mem _ List.mem_cons_self))) (by have h := hF _ List.mem_cons_self; have h : 0 ≤ (-7) + (1 * ρ 2 + 0) := h; omega) hG
  obtain ⟨k0, -⟩ := H
  exact ⟨_, List.mem_cons_self, ρ, fun _ _ => rfl, (okM_c (pvp 283 (by show 0 + (1 * ρ 0 + 0) = _; omega) (by show 0 + 0 = _; omega) k0) okM_n), okB_n, okF_n⟩
-- ice2
theorem cr_358 (M : pM) (s0 s1 s2 : Int) (b0 : 1 ≤ s0 ∧ s0 ≤ 80) (b1 : 0 ≤ s1 ∧ s1 ≤ 79) (b2 : 0 ≤ s2 ∧ s2 ≤ 8) (m0 : HP 282 (s0) (s1) M) (m1 : (0 ≤ (s1) ∧ M 111 (s1).toNat = (s2))) (f0 : 0 ≤ ((-1) * s2 + 4)) (f1 : 0 ≤ (s2 - 4)) (hG : gI M) : (HP 283 (s0) (1 : Int) M ∧ True) := by
  obtain ⟨c1, c2⟩ := ic_g (Eq.mp hp_282 m0) s0.toNat s1.toNat (by omega) (by omega)
  have hw : M 111 s1.toNat = ((s2.toNat : Nat) : Int) := by
    rw [m1.2]
    omega
  exact ⟨Eq.mpr hp_283 ⟨s0.toNat, by omega, by omega, Or.inl ⟨by omega, (c2.trans (gck_e hw (by omega))).trans (decide_eq_true (by omega))⟩⟩, trivial⟩
theorem rul_358 : Rul r_358 := by
  refine ⟨fun _ ρ M hm hB hF hG => ?_, fun gi gv hg => (by cases hg)⟩
  have H := cr_358 M (ρ 0) (ρ 1) (ρ 2) (hB _ List.mem_cons_self) (hB _ (List.mem_cons_of_mem _ List.mem_cons_self)) (hB _ (List.mem_cons_of_mem _ (List.mem_cons_of_mem _ List.mem_cons_self))) (cvp 282 (x' := ((ρ 0))) (y' := ((ρ 1))) (by show 0 + (1 * ρ 0 + 0) = _; omega) (by show 0 + (1 * ρ 1 + 0) = _; omega) (hm _ List.mem_cons_self)) (cvm (c := 111) (by decide) (x' := ((ρ 1))) (y' := ((ρ 2))) (by show 0 + (1 * ρ 1 + 0) = _; omega) (by show 0 + (1 * ρ 2 + 0) = _; omega) (hm _ (List.mem_cons_of_mem _ List.mem_cons_self))) (by have h := hF _ List.mem_cons_self; have h : 0 ≤ 4 + ((-1) * ρ 2 + 0) := h; omega) (by have h := hF _ (List.mem_cons_of_mem _ List.mem_cons_self); have h : 0 ≤ (-4) + (1 * ρ 2 + 0) := h; omega) hG
  obtain ⟨k0, -⟩ := H
  exact ⟨_, List.mem_cons_self, ρ, fun _ _ => rfl, (okM_c (pvp 283 (by show 0 + (1 * ρ 0 + 0) = _; omega) (by show 1 + 0 = _; omega) k0) okM_n), okB_n, okF_n⟩
-- rpo0
theorem cr_359 (M : pM) (s0 s1 s2 s3 s4 s5 : Int) (b0 : 0 ≤ s0 ∧ s0 ≤ 1900) (b1 : 0 ≤ s1 ∧ s1 ≤ 60) (b2 : 0 ≤ s2 ∧ s2 ≤ 7) (b3 : 1 ≤ s3 ∧ s3 ≤ 80) (b4 : 0 ≤ s4 ∧ s4 ≤ 8) (b5 : 0 ≤ s5 ∧ s5 ≤ 6) (m0 : HP 277 (64 * s0 + s1 + 131072 * s5 + 262144) (128 * s2 + s3) M) (m1 : (0 ≤ (s3 - 1) ∧ M 111 (s3 - 1).toNat = (s4))) (f0 : 0 ≤ ((-1) * s4 + 2)) (f1 : 0 ≤ ((-1) * s4 + 6)) (f2 : 0 ≤ (s4 + (-1) * s5)) (f3 : 0 ≤ (s3 - 2)) (hG : gI M) : (HP 277 (64 * s0 + s1 + 131072 * s5 + 262144) (128 * s2 + s3 - 1) M ∧ True) := by
  obtain ⟨k0, l1, h⟩ := rs_g (Eq.mp hp_277 m0) (2 + s5.toNat) s0.toNat s1.toNat s2.toNat s3.toNat (by unfold rix; omega) (by omega) (by omega) (by omega) (by omega)
  have hw : M 111 (s3.toNat - 1) = ((s4.toNat : Nat) : Int) := by
    rw [show s3.toNat - 1 = (s3 - 1).toNat by omega, m1.2]
    omega
  have hK := prow_s l1 hw
  rw [hK] at h
  exact ⟨Eq.mpr hp_277 (rs_p (2 + s5.toNat) s0.toNat s1.toNat s2.toNat (s3.toNat - 1) (by unfold rix; omega) (by omega) (by omega) (by omega) (by omega) (by omega) (by omega) (by omega) k0 rfl (rm_pop (d' := s2.toNat) h (by omega) (by omega) (by omega) (by rw [if_neg (by omega)]))), trivial⟩
theorem rul_359 : Rul r_359 := by
  refine ⟨fun _ ρ M hm hB hF hG => ?_, fun gi gv hg => (by cases hg)⟩
  have H := cr_359 M (ρ 0) (ρ 1) (ρ 2) (ρ 3) (ρ 4) (ρ 5) (hB _ List.mem_cons_self) (hB _ (List.mem_cons_of_mem _ List.mem_cons_self)) (hB _ (List.mem_cons_of_mem _ (List.mem_cons_of_mem _ List.mem_cons_self))) (hB _ (List.mem_cons_of_mem _ (List.mem_cons_of_mem _ (List.mem_cons_of_mem _ List.mem_cons_self)))) (hB _ (List.mem_cons_of_mem _ (List.mem_cons_of_mem _ (List.mem_cons_of_mem _ (List.mem_cons_of_mem _ List.mem_cons_self))))) (hB _ (List.mem_cons_of_mem _ (List.mem_cons_of_mem _ (List.mem_cons_of_mem _ (List.mem_cons_of_mem _ (List.mem_cons_of_mem _ List.mem_cons_self)))))) (cvp 277 (x' := (64 * (ρ 0) + (ρ 1) + 131072 * (ρ 5) + 262144)) (y' := (128 * (ρ 2) + (ρ 3))) (by show 262144 + (64 * ρ 0 + (1 * ρ 1 + (131072 * ρ 5 + 0))) = _; omega) (by show 0 + (128 * ρ 2 + (1 * ρ 3 + 0)) = _; omega) (hm _ List.mem_cons_self)) (cvm (c := 111) (by decide) (x' := ((ρ 3) - 1)) (y' := ((ρ 4))) (by show (-1) + (1 * ρ 3 + 0) = _; omega) (by show 0 + (1 * ρ 4 + 0) = _; omega) (hm _ (List.mem_cons_of_mem _ List.mem_cons_self))) (by have h := hF _ List.mem_cons_self; have h : 0 ≤ 2 + ((-1) * ρ 4 + 0) := h; omega) (by have h := hF _ (List.mem_cons_of_mem _ List.mem_cons_self); have h : 0 ≤ 6 + ((-1) * ρ 4 + 0) := h; omega) (by have h := hF _ (List.mem_cons_of_mem _ (List.mem_cons_of_mem _ List.mem_cons_self)); have h : 0 ≤ 0 + (1 * ρ 4 + ((-1) * ρ 5 + 0)) := h; omega) (by have h := hF _ (List.mem_cons_of_mem _ (List.mem_cons_of_mem _ (List.mem_cons_of_mem _ List.mem_cons_self))); have h : 0 ≤ (-2) + (1 * ρ 3 + 0) := h; omega) hG
  obtain ⟨k0, -⟩ := H
  exact ⟨_, List.mem_cons_self, ρ, fun _ _ => rfl, (okM_c (pvp 277 (by show 262144 + (64 * ρ 0 + (1 * ρ 1 + (131072 * ρ 5 + 0))) = _; omega) (by show (-1) + (128 * ρ 2 + (1 * ρ 3 + 0)) = _; omega) k0) okM_n), okB_n, okF_n⟩
-- rpo1
theorem cr_360 (M : pM) (s0 s1 s2 s3 s4 s5 : Int) (b0 : 0 ≤ s0 ∧ s0 ≤ 1900) (b1 : 0 ≤ s1 ∧ s1 ≤ 60) (b2 : 0 ≤ s2 ∧ s2 ≤ 7) (b3 : 1 ≤ s3 ∧ s3 ≤ 80) (b4 : 0 ≤ s4 ∧ s4 ≤ 8) (b5 : 0 ≤ s5 ∧ s5 ≤ 6) (m0 : HP 277 (64 * s0 + s1 + 131072 * s5 + 262144) (128 * s2 + s3) M) (m1 : (0 ≤ (s3 - 1) ∧ M 111 (s3 - 1).toNat = (s4))) (f0 : 0 ≤ (s4 - 4)) (f1 : 0 ≤ ((-1) * s4 + 6)) (f2 : 0 ≤ (s4 + (-1) * s5)) (f3 : 0 ≤ (s3 - 2)) (hG : gI M) : (HP 277 (64 * s0 + s1 + 131072 * s5 + 262144) (128 * s2 + s3 - 1) M ∧ True) := by
  obtain ⟨k0, l1, h⟩ := rs_g (Eq.mp hp_277 m0) (2 + s5.toNat) s0.toNat s1.toNat s2.toNat s3.toNat (by unfold rix; omega) (by omega) (by omega) (by omega) (by omega)
  have hw : M 111 (s3.toNat - 1) = ((s4.toNat : Nat) : Int) := by
    rw [show s3.toNat - 1 = (s3 - 1).toNat by omega, m1.2]
    omega
  have hK := prow_s l1 hw
  rw [hK] at h
  exact ⟨Eq.mpr hp_277 (rs_p (2 + s5.toNat) s0.toNat s1.toNat s2.toNat (s3.toNat - 1) (by unfold rix; omega) (by omega) (by omega) (by omega) (by omega) (by omega) (by omega) (by omega) k0 rfl (rm_pop (d' := s2.toNat) h (by omega) (by omega) (by omega) (by rw [if_neg (by omega)]))), trivial⟩
theorem rul_360 : Rul r_360 := by
  refine ⟨fun _ ρ M hm hB hF hG => ?_, fun gi gv hg => (by cases hg)⟩
  have H := cr_360 M (ρ 0) (ρ 1) (ρ 2) (ρ 3) (ρ 4) (ρ 5) (hB _ List.mem_cons_self) (hB _ (List.mem_cons_of_mem _ List.mem_cons_self)) (hB _ (List.mem_cons_of_mem _ (List.mem_cons_of_mem _ List.mem_cons_self))) (hB _ (List.mem_cons_of_mem _ (List.mem_cons_of_mem _ (List.mem_cons_of_mem _ List.mem_cons_self)))) (hB _ (List.mem_cons_of_mem _ (List.mem_cons_of_mem _ (List.mem_cons_of_mem _ (List.mem_cons_of_mem _ List.mem_cons_self))))) (hB _ (List.mem_cons_of_mem _ (List.mem_cons_of_mem _ (List.mem_cons_of_mem _ (List.mem_cons_of_mem _ (List.mem_cons_of_mem _ List.mem_cons_self)))))) (cvp 277 (x' := (64 * (ρ 0) + (ρ 1) + 131072 * (ρ 5) + 262144)) (y' := (128 * (ρ 2) + (ρ 3))) (by show 262144 + (64 * ρ 0 + (1 * ρ 1 + (131072 * ρ 5 + 0))) = _; omega) (by show 0 + (128 * ρ 2 + (1 * ρ 3 + 0)) = _; omega) (hm _ List.mem_cons_self)) (cvm (c := 111) (by decide) (x' := ((ρ 3) - 1)) (y' := ((ρ 4))) (by show (-1) + (1 * ρ 3 + 0) = _; omega) (by show 0 + (1 * ρ 4 + 0) = _; omega) (hm _ (List.mem_cons_of_mem _ List.mem_cons_self))) (by have h := hF _ List.mem_cons_self; have h : 0 ≤ (-4) + (1 * ρ 4 + 0) := h; omega) (by have h := hF _ (List.mem_cons_of_mem _ List.mem_cons_self); have h : 0 ≤ 6 + ((-1) * ρ 4 + 0) := h; omega) (by have h := hF _ (List.mem_cons_of_mem _ (List.mem_cons_of_mem _ List.mem_cons_self)); have h : 0 ≤ 0 + (1 * ρ 4 + ((-1) * ρ 5 + 0)) := h; omega) (by have h := hF _ (List.mem_cons_of_mem _ (List.mem_cons_of_mem _ (List.mem_cons_of_mem _ List.mem_cons_self))); have h : 0 ≤ (-2) + (1 * ρ 3 + 0) := h; omega) hG
  obtain ⟨k0, -⟩ := H
  exact ⟨_, List.mem_cons_self, ρ, fun _ _ => rfl, (okM_c (pvp 277 (by show 262144 + (64 * ρ 0 + (1 * ρ 1 + (131072 * ρ 5 + 0))) = _; omega) (by show (-1) + (128 * ρ 2 + (1 * ρ 3 + 0)) = _; omega) k0) okM_n), okB_n, okF_n⟩
-- rpn
theorem cr_361 (M : pM) (s0 s1 s2 s3 s4 s5 : Int) (b0 : 0 ≤ s0 ∧ s0 ≤ 1900) (b1 : 0 ≤ s1 ∧ s1 ≤ 60) (b2 : 0 ≤ s2 ∧ s2 ≤ 7) (b3 : 1 ≤ s3 ∧ s3 ≤ 80) (b4 : 0 ≤ s4 ∧ s4 ≤ 8) (b5 : 0 ≤ s5 ∧ s5 ≤ 6) (m0 : HP 277 (64 * s0 + s1 + 131072 * s5 + 262144) (128 * s2 + s3) M) (m1 : (0 ≤ (s3 - 1) ∧ M 111 (s3 - 1).toNat = (s4))) (f0 : 0 ≤ ((-1) * s4 + 3)) (f1 : 0 ≤ (s4 - 3)) (f2 : 0 ≤ (s4 + (-1) * s5)) (f3 : 0 ≤ (s2 - 1)) (f4 : 0 ≤ (s3 - 2)) (hG : gI M) : (HP 277 (64 * s0 + s1 + 131072 * s5 + 262144) (128 * s2 + s3 - 129) M ∧ True) := by
  obtain ⟨k0, l1, h⟩ := rs_g (Eq.mp hp_277 m0) (2 + s5.toNat) s0.toNat s1.toNat s2.toNat s3.toNat (by unfold rix; omega) (by omega) (by omega) (by omega) (by omega)
  have hw : M 111 (s3.toNat - 1) = ((s4.toNat : Nat) : Int) := by
    rw [show s3.toNat - 1 = (s3 - 1).toNat by omega, m1.2]
    omega
  have hK := prow_s l1 hw
  rw [hK] at h
  exact ⟨Eq.mpr hp_277 (rs_p (2 + s5.toNat) s0.toNat s1.toNat (s2.toNat - 1) (s3.toNat - 1) (by unfold rix; omega) (by omega) (by omega) (by omega) (by omega) (by omega) (by omega) (by omega) k0 rfl (rm_pop (d' := s2.toNat - 1) h (by omega) (by omega) (by omega) (by rw [if_pos (by omega)]))), trivial⟩
theorem rul_361 : Rul r_361 := by
  refine ⟨fun _ ρ M hm hB hF hG => ?_, fun gi gv hg => (by cases hg)⟩
  have H := cr_361 M (ρ 0) (ρ 1) (ρ 2) (ρ 3) (ρ 4) (ρ 5) (hB _ List.mem_cons_self) (hB _ (List.mem_cons_of_mem _ List.mem_cons_self)) (hB _ (List.mem_cons_of_mem _ (List.mem_cons_of_mem _ List.mem_cons_self))) (hB _ (List.mem_cons_of_mem _ (List.mem_cons_of_mem _ (List.mem_cons_of_mem _ List.mem_cons_self)))) (hB _ (List.mem_cons_of_mem _ (List.mem_cons_of_mem _ (List.mem_cons_of_mem _ (List.mem_cons_of_mem _ List.mem_cons_self))))) (hB _ (List.mem_cons_of_mem _ (List.mem_cons_of_mem _ (List.mem_cons_of_mem _ (List.mem_cons_of_mem _ (List.mem_cons_of_mem _ List.mem_cons_self)))))) (cvp 277 (x' := (64 * (ρ 0) + (ρ 1) + 131072 * (ρ 5) + 262144)) (y' := (128 * (ρ 2) + (ρ 3))) (by show 262144 + (64 * ρ 0 + (1 * ρ 1 + (131072 * ρ 5 + 0))) = _; omega) (by show 0 + (128 * ρ 2 + (1 * ρ 3 + 0)) = _; omega) (hm _ List.mem_cons_self)) (cvm (c := 111) (by decide) (x' := ((ρ 3) - 1)) (y' := ((ρ 4))) (by show (-1) + (1 * ρ 3 + 0) = _; omega) (by show 0 + (1 * ρ 4 + 0) = _; omega) (hm _ (List.mem_cons_of_mem _ List.mem_cons_self))) (by have h := hF _ List.mem_cons_self; have h : 0 ≤ 3 + ((-1) * ρ 4 + 0) := h; omega) (by have h := hF _ (List.mem_cons_of_mem _ List.mem_cons_self); have h : 0 ≤ (-3) + (1 * ρ 4 + 0) := h; omega) (by have h := hF _ (List.mem_cons_of_mem _ (List.mem_cons_of_mem _ List.mem_cons_self)); have h : 0 ≤ 0 + (1 * ρ 4 + ((-1) * ρ 5 + 0)) := h; omega) (by have h := hF _ (List.mem_cons_of_mem _ (List.mem_cons_of_mem _ (List.mem_cons_of_mem _ List.mem_cons_self))); have h : 0 ≤ (-1) + (1 * ρ 2 + 0) := h; omega) (by have h := hF _ (List.mem_cons_of_mem _ (List.mem_cons_of_mem _ (List.mem_cons_of_mem _ (List.mem_cons_of_mem _ List.mem_cons_self)))); have h : 0 ≤ (-2) + (1 * ρ 3 + 0) := h; omega) hG
  obtain ⟨k0, -⟩ := H
  exact ⟨_, List.mem_cons_self, ρ, fun _ _ => rfl, (okM_c (pvp 277 (by show 262144 + (64 * ρ 0 + (1 * ρ 1 + (131072 * ρ 5 + 0))) = _; omega) (by show (-129) + (128 * ρ 2 + (1 * ρ 3 + 0)) = _; omega) k0) okM_n), okB_n, okF_n⟩
-- rbx0
theorem cr_362 (M : pM) (s0 s1 s2 s3 s4 s5 : Int) (b0 : 0 ≤ s0 ∧ s0 ≤ 1900) (b1 : 0 ≤ s1 ∧ s1 ≤ 60) (b2 : 0 ≤ s2 ∧ s2 ≤ 7) (b3 : 1 ≤ s3 ∧ s3 ≤ 80) (b4 : 0 ≤ s4 ∧ s4 ≤ 8) (b5 : 0 ≤ s5 ∧ s5 ≤ 6) (m0 : HP 277 (64 * s0 + s1 + 131072 * s5 + 262144) (128 * s2 + s3) M) (m1 : (0 ≤ (s3 - 1) ∧ M 111 (s3 - 1).toNat = (s4))) (f0 : 0 ≤ ((-1) * s4 + s5 - 1)) (f1 : 0 ≤ (s5 - 1)) (hG : gI M) : (HP 277 (64 * s0 + s1 + 131072 * s5 + 1179648) (128 * s2 + s3) M ∧ True) := by
  obtain ⟨k0, l1, h⟩ := rs_g (Eq.mp hp_277 m0) (2 + s5.toNat) s0.toNat s1.toNat s2.toNat s3.toNat (by unfold rix; omega) (by omega) (by omega) (by omega) (by omega)
  have hw : M 111 (s3.toNat - 1) = ((s4.toNat : Nat) : Int) := by
    rw [show s3.toNat - 1 = (s3 - 1).toNat by omega, m1.2]
    omega
  have hK := prow_s l1 hw
  rw [hK] at h
  exact ⟨Eq.mpr hp_277 (rs_p (9 + s5.toNat) s0.toNat s1.toNat s2.toNat s3.toNat (by unfold rix; omega) (by omega) (by omega) (by omega) (by omega) (by omega) (by omega) (by omega) k0 hK (rm_x h (by omega) (by omega) (by omega))), trivial⟩
theorem rul_362 : Rul r_362 := by
  refine ⟨fun _ ρ M hm hB hF hG => ?_, fun gi gv hg => (by cases hg)⟩
  have H := cr_362 M (ρ 0) (ρ 1) (ρ 2) (ρ 3) (ρ 4) (ρ 5) (hB _ List.mem_cons_self) (hB _ (List.mem_cons_of_mem _ List.mem_cons_self)) (hB _ (List.mem_cons_of_mem _ (List.mem_cons_of_mem _ List.mem_cons_self))) (hB _ (List.mem_cons_of_mem _ (List.mem_cons_of_mem _ (List.mem_cons_of_mem _ List.mem_cons_self)))) (hB _ (List.mem_cons_of_mem _ (List.mem_cons_of_mem _ (List.mem_cons_of_mem _ (List.mem_cons_of_mem _ List.mem_cons_self))))) (hB _ (List.mem_cons_of_mem _ (List.mem_cons_of_mem _ (List.mem_cons_of_mem _ (List.mem_cons_of_mem _ (List.mem_cons_of_mem _ List.mem_cons_self)))))) (cvp 277 (x' := (64 * (ρ 0) + (ρ 1) + 131072 * (ρ 5) + 262144)) (y' := (128 * (ρ 2) + (ρ 3))) (by show 262144 + (64 * ρ 0 + (1 * ρ 1 + (131072 * ρ 5 + 0))) = _; omega) (by show 0 + (128 * ρ 2 + (1 * ρ 3 + 0)) = _; omega) (hm _ List.mem_cons_self)) (cvm (c := 111) (by decide) (x' := ((ρ 3) - 1)) (y' := ((ρ 4))) (by show (-1) + (1 * ρ 3 + 0) = _; omega) (by show 0 + (1 * ρ 4 + 0) = _; omega) (hm _ (List.mem_cons_of_mem _ List.mem_cons_self))) (by have h := hF _ List.mem_cons_self; have h : 0 ≤ (-1) + ((-1) * ρ 4 + (1 * ρ 5 + 0)) := h; omega) (by have h := hF _ (List.mem_cons_of_mem _ List.mem_cons_self); have h : 0 ≤ (-1) + (1 * ρ 5 + 0) := h; omega) hG
  obtain ⟨k0, -⟩ := H
  exact ⟨_, List.mem_cons_self, ρ, fun _ _ => rfl, (okM_c (pvp 277 (by show 1179648 + (64 * ρ 0 + (1 * ρ 1 + (131072 * ρ 5 + 0))) = _; omega) (by show 0 + (128 * ρ 2 + (1 * ρ 3 + 0)) = _; omega) k0) okM_n), okB_n, okF_n⟩
-- rbx1
theorem cr_363 (M : pM) (s0 s1 s2 s3 s4 s5 : Int) (b0 : 0 ≤ s0 ∧ s0 ≤ 1900) (b1 : 0 ≤ s1 ∧ s1 ≤ 60) (b2 : 0 ≤ s2 ∧ s2 ≤ 7) (b3 : 1 ≤ s3 ∧ s3 ≤ 80) (b4 : 0 ≤ s4 ∧ s4 ≤ 8) (b5 : 0 ≤ s5 ∧ s5 ≤ 6) (m0 : HP 277 (64 * s0 + s1 + 131072 * s5 + 262144) (128 * s2 + s3) M) (m1 : (0 ≤ (s3 - 1) ∧ M 111 (s3 - 1).toNat = (s4))) (f0 : 0 ≤ (s4 - 7)) (f1 : 0 ≤ (s5 - 1)) (hG : gI M) : (HP 277 (64 * s0 + s1 + 131072 * s5 + 1179648) (128 * s2 + s3) M ∧ True) := by
  obtain ⟨k0, l1, h⟩ := rs_g (Eq.mp hp_277 m0) (2 + s5.toNat) s0.toNat s1.toNat s2.toNat s3.toNat (by unfold rix; omega) (by omega) (by omega) (by omega) (by omega)
  have hw : M 111 (s3.toNat - 1) = ((s4.toNat : Nat) : Int) := by
    rw [show s3.toNat - 1 = (s3 - 1).toNat by omega, m1.2]
    omega
  have hK := prow_s l1 hw
  rw [hK] at h
  exact ⟨Eq.mpr hp_277 (rs_p (9 + s5.toNat) s0.toNat s1.toNat s2.toNat s3.toNat (by unfold rix; omega) (by omega) (by omega) (by omega) (by omega) (by omega) (by omega) (by omega) k0 hK (rm_x h (by omega) (by omega) (by omega))), trivial⟩
theorem rul_363 : Rul r_363 := by
  refine ⟨fun _ ρ M hm hB hF hG => ?_, fun gi gv hg => (by cases hg)⟩
  have H := cr_363 M (ρ 0) (ρ 1) (ρ 2) (ρ 3) (ρ 4) (ρ 5) (hB _ List.mem_cons_self) (hB _ (List.mem_cons_of_mem _ List.mem_cons_self)) (hB _ (List.mem_cons_of_mem _ (List.mem_cons_of_mem _ List.mem_cons_self))) (hB _ (List.mem_cons_of_mem _ (List.mem_cons_of_mem _ (List.mem_cons_of_mem _ List.mem_cons_self)))) (hB _ (List.mem_cons_of_mem _ (List.mem_cons_of_mem _ (List.mem_cons_of_mem _ (List.mem_cons_of_mem _ List.mem_cons_self))))) (hB _ (List.mem_cons_of_mem _ (List.mem_cons_of_mem _ (List.mem_cons_of_mem _ (List.mem_cons_of_mem _ (List.mem_cons_of_mem _ List.mem_cons_self)))))) (cvp 277 (x' := (64 * (ρ 0) + (ρ 1) + 131072 * (ρ 5) + 262144)) (y' := (128 * (ρ 2) + (ρ 3))) (by show 262144 + (64 * ρ 0 + (1 * ρ 1 + (131072 * ρ 5 + 0))) = _; omega) (by show 0 + (128 * ρ 2 + (1 * ρ 3 + 0)) = _; omega) (hm _ List.mem_cons_self)) (cvm (c := 111) (by decide) (x' := ((ρ 3) - 1)) (y' := ((ρ 4))) (by show (-1) + (1 * ρ 3 + 0) = _; omega) (by show 0 + (1 * ρ 4 + 0) = _; omega) (hm _ (List.mem_cons_of_mem _ List.mem_cons_self))) (by have h := hF _ List.mem_cons_self; have h : 0 ≤ (-7) + (1 * ρ 4 + 0) := h; omega) (by have h := hF _ (List.mem_cons_of_mem _ List.mem_cons_self); have h : 0 ≤ (-1) + (1 * ρ 5 + 0) := h; omega) hG
  obtain ⟨k0, -⟩ := H
  exact ⟨_, List.mem_cons_self, ρ, fun _ _ => rfl, (okM_c (pvp 277 (by show 1179648 + (64 * ρ 0 + (1 * ρ 1 + (131072 * ρ 5 + 0))) = _; omega) (by show 0 + (128 * ρ 2 + (1 * ρ 3 + 0)) = _; omega) k0) okM_n), okB_n, okF_n⟩
-- rbk
theorem cr_364 (M : pM) (s0 s1 s2 s3 s4 s5 : Int) (b0 : 0 ≤ s0 ∧ s0 ≤ 1900) (b1 : 0 ≤ s1 ∧ s1 ≤ 60) (b2 : 0 ≤ s2 ∧ s2 ≤ 7) (b3 : 1 ≤ s3 ∧ s3 ≤ 80) (b4 : 0 ≤ s4 ∧ s4 ≤ 1900) (b5 : 0 ≤ s5 ∧ s5 ≤ 8) (m0 : HP 277 (64 * s0 + s1 + 262144) (128 * s2 + s3) M) (m1 : (0 ≤ (s3 - 1) ∧ M 111 (s3 - 1).toNat = (s5))) (m2 : HP 47 (s0) (524329 : Int) M) (m3 : HP 46 (s0) (s4) M) (f0 : 0 ≤ ((-1) * s5 + 7)) (f1 : 0 ≤ (s5 - 7)) (f2 : 0 ≤ (s2 - 1)) (f3 : 0 ≤ (s3 - 2)) (hG : gI M) : (HP 277 (s1 + 64 * s4) (128 * s2 + s3 - 129) M ∧ True) := by
  obtain ⟨k0, l1, h⟩ := rs_g (Eq.mp hp_277 m0) (2 + 0) s0.toNat s1.toNat s2.toNat s3.toNat (by unfold rix; omega) (by omega) (by omega) (by omega) (by omega)
  have hw : M 111 (s3.toNat - 1) = ((7 : Nat) : Int) := by
    rw [show s3.toNat - 1 = (s3 - 1).toNat by omega, m1.2]
    omega
  have hK := prow_s l1 hw
  rw [hK] at h
  have k : ltt (tm M) s0.toNat = 8 := by
    unfold ltt
    rw [show tK (tm M) s0.toNat = _ from (q47 m2).2]
    unfold lty
    (repeat' split) <;> omega
  have e : tE (tm M) s0.toNat = s4.toNat := by
    have := (q46 m3).2
    omega
  exact ⟨Eq.mpr hp_277 (rs_p 0 (tE (tm M) s0.toNat) s1.toNat (s2.toNat - 1) (s3.toNat - 1) (by unfold rix; omega) (by omega) (by omega) (by omega) (by omega) (by omega) (by omega) (by omega) k0 rfl (rm_k h k)), trivial⟩
theorem rul_364 : Rul r_364 := by
  refine ⟨fun _ ρ M hm hB hF hG => ?_, fun gi gv hg => (by cases hg)⟩
  have H := cr_364 M (ρ 0) (ρ 1) (ρ 2) (ρ 3) (ρ 4) (ρ 5) (hB _ List.mem_cons_self) (hB _ (List.mem_cons_of_mem _ List.mem_cons_self)) (hB _ (List.mem_cons_of_mem _ (List.mem_cons_of_mem _ List.mem_cons_self))) (hB _ (List.mem_cons_of_mem _ (List.mem_cons_of_mem _ (List.mem_cons_of_mem _ List.mem_cons_self)))) (hB _ (List.mem_cons_of_mem _ (List.mem_cons_of_mem _ (List.mem_cons_of_mem _ (List.mem_cons_of_mem _ List.mem_cons_self))))) (hB _ (List.mem_cons_of_mem _ (List.mem_cons_of_mem _ (List.mem_cons_of_mem _ (List.mem_cons_of_mem _ (List.mem_cons_of_mem _ List.mem_cons_self)))))) (cvp 277 (x' := (64 * (ρ 0) + (ρ 1) + 262144)) (y' := (128 * (ρ 2) + (ρ 3))) (by show 262144 + (64 * ρ 0 + (1 * ρ 1 + 0)) = _; omega) (by show 0 + (128 * ρ 2 + (1 * ρ 3 + 0)) = _; omega) (hm _ List.mem_cons_self)) (cvm (c := 111) (by decide) (x' := ((ρ 3) - 1)) (y' := ((ρ 5))) (by show (-1) + (1 * ρ 3 + 0) = _; omega) (by show 0 + (1 * ρ 5 + 0) = _; omega) (hm _ (List.mem_cons_of_mem _ List.mem_cons_self))) (cvp 47 (x' := ((ρ 0))) (y' := (524329 : Int)) (by show 0 + (1 * ρ 0 + 0) = _; omega) (by show 524329 + 0 = _; omega) (hm _ (List.mem_cons_of_mem _ (List.mem_cons_of_mem _ List.mem_cons_self)))) (cvp 46 (x' := ((ρ 0))) (y' := ((ρ 4))) (by show 0 + (1 * ρ 0 + 0) = _; omega) (by show 0 + (1 * ρ 4 + 0) = _; omega) (hm _ (List.mem_cons_of_mem _ (List.mem_cons_of_mem _ (List.mem_cons_of_mem _ List.mem_cons_self))))) (by have h := hF _ List.mem_cons_self; have h : 0 ≤ 7 + ((-1) * ρ 5 + 0) := h; omega) (by have h := hF _ (List.mem_cons_of_mem _ List.mem_cons_self); have h : 0 ≤ (-7) + (1 * ρ 5 + 0) := h; omega) (by have h := hF _ (List.mem_cons_of_mem _ (List.mem_cons_of_mem _ List.mem_cons_self)); have h : 0 ≤ (-1) + (1 * ρ 2 + 0) := h; omega) (by have h := hF _ (List.mem_cons_of_mem _ (List.mem_cons_of_mem _ (List.mem_cons_of_mem _ List.mem_cons_self))); have h : 0 ≤ (-2) + (1 * ρ 3 + 0) := h; omega) hG
  obtain ⟨k0, -⟩ := H
  exact ⟨_, List.mem_cons_self, ρ, fun _ _ => rfl, (okM_c (pvp 277 (by show 0 + (1 * ρ 1 + (64 * ρ 4 + 0)) = _; omega) (by show (-129) + (128 * ρ 2 + (1 * ρ 3 + 0)) = _; omega) k0) okM_n), okB_n, okF_n⟩
-- rbl0
theorem cr_365 (M : pM) (s0 s1 s2 s3 s4 s5 : Int) (b0 : 0 ≤ s0 ∧ s0 ≤ 1900) (b1 : 0 ≤ s1 ∧ s1 ≤ 60) (b2 : 0 ≤ s2 ∧ s2 ≤ 7) (b3 : 1 ≤ s3 ∧ s3 ≤ 80) (b4 : (-1) ≤ s4 ∧ s4 ≤ 600000) (b5 : 0 ≤ s5 ∧ s5 ≤ 8) (m0 : HP 277 (64 * s0 + s1 + 262144) (128 * s2 + s3) M) (m1 : (0 ≤ (s3 - 1) ∧ M 111 (s3 - 1).toNat = (s5))) (m2 : HP 47 (s0) (s4) M) (f0 : 0 ≤ ((-1) * s4 + 524328)) (f1 : 0 ≤ ((-1) * s5 + 7)) (f2 : 0 ≤ (s5 - 7)) (hG : gI M) : (HP 280 (0 : Int) (s0) M ∧ True) := by
  obtain ⟨k0, l1, h⟩ := rs_g (Eq.mp hp_277 m0) (2 + 0) s0.toNat s1.toNat s2.toNat s3.toNat (by unfold rix; omega) (by omega) (by omega) (by omega) (by omega)
  have hw : M 111 (s3.toNat - 1) = ((7 : Nat) : Int) := by
    rw [show s3.toNat - 1 = (s3 - 1).toNat by omega, m1.2]
    omega
  have hK := prow_s l1 hw
  rw [hK] at h
  have k : ltt (tm M) s0.toNat ≠ 8 := by
    unfold ltt
    rw [show tK (tm M) s0.toNat = _ from (q47 m2).2]
    unfold lty
    (repeat' split) <;> omega
  exact ⟨Eq.mpr hp_280 (Or.inr (Or.inl ⟨k0, s0.toNat, by omega, rm_l h k⟩)), trivial⟩
theorem rul_365 : Rul r_365 := by
  refine ⟨fun _ ρ M hm hB hF hG => ?_, fun gi gv hg => (by cases hg)⟩
  have H := cr_365 M (ρ 0) (ρ 1) (ρ 2) (ρ 3) (ρ 4) (ρ 5) (hB _ List.mem_cons_self) (hB _ (List.mem_cons_of_mem _ List.mem_cons_self)) (hB _ (List.mem_cons_of_mem _ (List.mem_cons_of_mem _ List.mem_cons_self))) (hB _ (List.mem_cons_of_mem _ (List.mem_cons_of_mem _ (List.mem_cons_of_mem _ List.mem_cons_self)))) (hB _ (List.mem_cons_of_mem _ (List.mem_cons_of_mem _ (List.mem_cons_of_mem _ (List.mem_cons_of_mem _ List.mem_cons_self))))) (hB _ (List.mem_cons_of_mem _ (List.mem_cons_of_mem _ (List.mem_cons_of_mem _ (List.mem_cons_of_mem _ (List.mem_cons_of_mem _ List.mem_cons_self)))))) (cvp 277 (x' := (64 * (ρ 0) + (ρ 1) + 262144)) (y' := (128 * (ρ 2) + (ρ 3))) (by show 262144 + (64 * ρ 0 + (1 * ρ 1 + 0)) = _; omega) (by show 0 + (128 * ρ 2 + (1 * ρ 3 + 0)) = _; omega) (hm _ List.mem_cons_self)) (cvm (c := 111) (by decide) (x' := ((ρ 3) - 1)) (y' := ((ρ 5))) (by show (-1) + (1 * ρ 3 + 0) = _; omega) (by show 0 + (1 * ρ 5 + 0) = _; omega) (hm _ (List.mem_cons_of_mem _ List.mem_cons_self))) (cvp 47 (x' := ((ρ 0))) (y' := ((ρ 4))) (by show 0 + (1 * ρ 0 + 0) = _; omega) (by show 0 + (1 * ρ 4 + 0) = _; omega) (hm _ (List.mem_cons_of_mem _ (List.mem_cons_of_mem _ List.mem_cons_self)))) (by have h := hF _ List.mem_cons_self; have h : 0 ≤ 524328 + ((-1) * ρ 4 + 0) := h; omega) (by have h := hF _ (List.mem_cons_of_mem _ List.mem_cons_self); have h : 0 ≤ 7 + ((-1) * ρ 5 + 0) := h; omega) (by have h := hF _ (List.mem_cons_of_mem _ (List.mem_cons_of_mem _ List.mem_cons_self)); have h : 0 ≤ (-7) + (1 * ρ 5 + 0) := h; omega) hG
  obtain ⟨k0, -⟩ := H
  exact ⟨_, List.mem_cons_self, ρ, fun _ _ => rfl, (okM_c (pvp 280 (by show 0 + 0 = _; omega) (by show 0 + (1 * ρ 0 + 0) = _; omega) k0) okM_n), okB_n, okF_n⟩
-- rbl1
theorem cr_366 (M : pM) (s0 s1 s2 s3 s4 s5 : Int) (b0 : 0 ≤ s0 ∧ s0 ≤ 1900) (b1 : 0 ≤ s1 ∧ s1 ≤ 60) (b2 : 0 ≤ s2 ∧ s2 ≤ 7) (b3 : 1 ≤ s3 ∧ s3 ≤ 80) (b4 : (-1) ≤ s4 ∧ s4 ≤ 600000) (b5 : 0 ≤ s5 ∧ s5 ≤ 8) (m0 : HP 277 (64 * s0 + s1 + 262144) (128 * s2 + s3) M) (m1 : (0 ≤ (s3 - 1) ∧ M 111 (s3 - 1).toNat = (s5))) (m2 : HP 47 (s0) (s4) M) (f0 : 0 ≤ (s4 - 524330)) (f1 : 0 ≤ ((-1) * s5 + 7)) (f2 : 0 ≤ (s5 - 7)) (hG : gI M) : (HP 280 (0 : Int) (s0) M ∧ True) := by
  obtain ⟨k0, l1, h⟩ := rs_g (Eq.mp hp_277 m0) (2 + 0) s0.toNat s1.toNat s2.toNat s3.toNat (by unfold rix; omega) (by omega) (by omega) (by omega) (by omega)
  have hw : M 111 (s3.toNat - 1) = ((7 : Nat) : Int) := by
    rw [show s3.toNat - 1 = (s3 - 1).toNat by omega, m1.2]
    omega
  have hK := prow_s l1 hw
  rw [hK] at h
  have k : ltt (tm M) s0.toNat ≠ 8 := by
    unfold ltt
    rw [show tK (tm M) s0.toNat = _ from (q47 m2).2]
    unfold lty
    (repeat' split) <;> omega
  exact ⟨Eq.mpr hp_280 (Or.inr (Or.inl ⟨k0, s0.toNat, by omega, rm_l h k⟩)), trivial⟩
theorem rul_366 : Rul r_366 := by
  refine ⟨fun _ ρ M hm hB hF hG => ?_, fun gi gv hg => (by cases hg)⟩
  have H := cr_366 M (ρ 0) (ρ 1) (ρ 2) (ρ 3) (ρ 4) (ρ 5) (hB _ List.mem_cons_self) (hB _ (List.mem_cons_of_mem _ List.mem_cons_self)) (hB _ (List.mem_cons_of_mem _ (List.mem_cons_of_mem _ List.mem_cons_self))) (hB _ (List.mem_cons_of_mem _ (List.mem_cons_of_mem _ (List.mem_cons_of_mem _ List.mem_cons_self)))) (hB _ (List.mem_cons_of_mem _ (List.mem_cons_of_mem _ (List.mem_cons_of_mem _ (List.mem_cons_of_mem _ List.mem_cons_self))))) (hB _ (List.mem_cons_of_mem _ (List.mem_cons_of_mem _ (List.mem_cons_of_mem _ (List.mem_cons_of_mem _ (List.mem_cons_of_mem _ List.mem_cons_self)))))) (cvp 277 (x' := (64 * (ρ 0) + (ρ 1) + 262144)) (y' := (128 * (ρ 2) + (ρ 3))) (by show 262144 + (64 * ρ 0 + (1 * ρ 1 + 0)) = _; omega) (by show 0 + (128 * ρ 2 + (1 * ρ 3 + 0)) = _; omega) (hm _ List.mem_cons_self)) (cvm (c := 111) (by decide) (x' := ((ρ 3) - 1)) (y' := ((ρ 5))) (by show (-1) + (1 * ρ 3 + 0) = _; omega) (by show 0 + (1 * ρ 5 + 0) = _; omega) (hm _ (List.mem_cons_of_mem _ List.mem_cons_self))) (cvp 47 (x' := ((ρ 0))) (y' := ((ρ 4))) (by show 0 + (1 * ρ 0 + 0) = _; omega) (by show 0 + (1 * ρ 4 + 0) = _; omega) (hm _ (List.mem_cons_of_mem _ (List.mem_cons_of_mem _ List.mem_cons_self)))) (by have h := hF _ List.mem_cons_self; have h : 0 ≤ (-524330) + (1 * ρ 4 + 0) := h; omega) (by have h := hF _ (List.mem_cons_of_mem _ List.mem_cons_self); have h : 0 ≤ 7 + ((-1) * ρ 5 + 0) := h; omega) (by have h := hF _ (List.mem_cons_of_mem _ (List.mem_cons_of_mem _ List.mem_cons_self)); have h : 0 ≤ (-7) + (1 * ρ 5 + 0) := h; omega) hG
  obtain ⟨k0, -⟩ := H
  exact ⟨_, List.mem_cons_self, ρ, fun _ _ => rfl, (okM_c (pvp 280 (by show 0 + 0 = _; omega) (by show 0 + (1 * ρ 0 + 0) = _; omega) k0) okM_n), okB_n, okF_n⟩
-- rbd
theorem cr_367 (M : pM) (s0 s1 s2 s3 s4 : Int) (b0 : 0 ≤ s0 ∧ s0 ≤ 1900) (b1 : 0 ≤ s1 ∧ s1 ≤ 60) (b2 : 0 ≤ s2 ∧ s2 ≤ 7) (b3 : 1 ≤ s3 ∧ s3 ≤ 80) (b4 : 0 ≤ s4 ∧ s4 ≤ 8) (m0 : HP 277 (64 * s0 + s1 + 262144) (128 * s2 + s3) M) (m1 : (0 ≤ (s3 - 1) ∧ M 111 (s3 - 1).toNat = (s4))) (f0 : 0 ≤ ((-1) * s4 + 8)) (f1 : 0 ≤ (s4 - 8)) (hG : gI M) : (HP 279 (0 : Int) (s0) M ∧ True) := by
  obtain ⟨k0, l1, h⟩ := rs_g (Eq.mp hp_277 m0) (2 + 0) s0.toNat s1.toNat s2.toNat s3.toNat (by unfold rix; omega) (by omega) (by omega) (by omega) (by omega)
  have hw : M 111 (s3.toNat - 1) = ((8 : Nat) : Int) := by
    rw [show s3.toNat - 1 = (s3 - 1).toNat by omega, m1.2]
    omega
  have hK := prow_s l1 hw
  rw [hK] at h
  exact ⟨Eq.mpr hp_279 ⟨s0.toNat, by omega, by omega, k0, s1.toNat, rm_d h⟩, trivial⟩
theorem rul_367 : Rul r_367 := by
  refine ⟨fun _ ρ M hm hB hF hG => ?_, fun gi gv hg => (by cases hg)⟩
  have H := cr_367 M (ρ 0) (ρ 1) (ρ 2) (ρ 3) (ρ 4) (hB _ List.mem_cons_self) (hB _ (List.mem_cons_of_mem _ List.mem_cons_self)) (hB _ (List.mem_cons_of_mem _ (List.mem_cons_of_mem _ List.mem_cons_self))) (hB _ (List.mem_cons_of_mem _ (List.mem_cons_of_mem _ (List.mem_cons_of_mem _ List.mem_cons_self)))) (hB _ (List.mem_cons_of_mem _ (List.mem_cons_of_mem _ (List.mem_cons_of_mem _ (List.mem_cons_of_mem _ List.mem_cons_self))))) (cvp 277 (x' := (64 * (ρ 0) + (ρ 1) + 262144)) (y' := (128 * (ρ 2) + (ρ 3))) (by show 262144 + (64 * ρ 0 + (1 * ρ 1 + 0)) = _; omega) (by show 0 + (128 * ρ 2 + (1 * ρ 3 + 0)) = _; omega) (hm _ List.mem_cons_self)) (cvm (c := 111) (by decide) (x' := ((ρ 3) - 1)) (y' := ((ρ 4))) (by show (-1) + (1 * ρ 3 + 0) = _; omega) (by show 0 + (1 * ρ 4 + 0) = _; omega) (hm _ (List.mem_cons_of_mem _ List.mem_cons_self))) (by have h := hF _ List.mem_cons_self; have h : 0 ≤ 8 + ((-1) * ρ 4 + 0) := h; omega) (by have h := hF _ (List.mem_cons_of_mem _ List.mem_cons_self); have h : 0 ≤ (-8) + (1 * ρ 4 + 0) := h; omega) hG
  obtain ⟨k0, -⟩ := H
  exact ⟨_, List.mem_cons_self, ρ, fun _ _ => rfl, (okM_c (pvp 279 (by show 0 + 0 = _; omega) (by show 0 + (1 * ρ 0 + 0) = _; omega) k0) okM_n), okB_n, okF_n⟩
-- rrw0
theorem cr_368 (M : pM) (s0 : Int) (b0 : (-1) ≤ s0 ∧ s0 ≤ 600000) (m0 : HP 47 (0 : Int) (s0) M) (f0 : 0 ≤ ((-1) * s0 + 262156)) (hG : gI M) : (HP 280 (0 : Int) (0 : Int) M ∧ True) := by
  have k : tK (tm M) 0 = _ := (q47 m0).2
  exact ⟨Eq.mpr hp_280 (Or.inl ⟨by omega, rfl⟩), trivial⟩
theorem rul_368 : Rul r_368 := by
  refine ⟨fun _ ρ M hm hB hF hG => ?_, fun gi gv hg => (by cases hg)⟩
  have H := cr_368 M (ρ 0) (hB _ List.mem_cons_self) (cvp 47 (x' := (0 : Int)) (y' := ((ρ 0))) (by show 0 + 0 = _; omega) (by show 0 + (1 * ρ 0 + 0) = _; omega) (hm _ List.mem_cons_self)) (by have h := hF _ List.mem_cons_self; have h : 0 ≤ 262156 + ((-1) * ρ 0 + 0) := h; omega) hG
  obtain ⟨k0, -⟩ := H
  exact ⟨_, List.mem_cons_self, ρ, fun _ _ => rfl, (okM_c (pvp 280 (by show 0 + 0 = _; omega) (by show 0 + 0 = _; omega) k0) okM_n), okB_n, okF_n⟩
-- rrw1
theorem cr_369 (M : pM) (s0 : Int) (b0 : (-1) ≤ s0 ∧ s0 ≤ 600000) (m0 : HP 47 (0 : Int) (s0) M) (f0 : 0 ≤ (s0 - 262158)) (hG : gI M) : (HP 280 (0 : Int) (0 : Int) M ∧ True) := by
  have k : tK (tm M) 0 = _ := (q47 m0).2
  exact ⟨Eq.mpr hp_280 (Or.inl ⟨by omega, rfl⟩), trivial⟩
theorem rul_369 : Rul r_369 := by
  refine ⟨fun _ ρ M hm hB hF hG => ?_, fun gi gv hg => (by cases hg)⟩
  have H := cr_369 M (ρ 0) (hB _ List.mem_cons_self) (cvp 47 (x' := (0 : Int)) (y' := ((ρ 0))) (by show 0 + 0 = _; omega) (by show 0 + (1 * ρ 0 + 0) = _; omega) (hm _ List.mem_cons_self)) (by have h := hF _ List.mem_cons_self; have h : 0 ≤ (-262158) + (1 * ρ 0 + 0) := h; omega) hG
  obtain ⟨k0, -⟩ := H
  exact ⟨_, List.mem_cons_self, ρ, fun _ _ => rfl, (okM_c (pvp 280 (by show 0 + 0 = _; omega) (by show 0 + 0 = _; omega) k0) okM_n), okB_n, okF_n⟩
-- rrs0
theorem cr_370 (M : pM) (s0 s1 : Int) (b0 : 0 ≤ s0 ∧ s0 ≤ 1900) (b1 : (-1) ≤ s1 ∧ s1 ≤ 600000) (m0 : HP 279 (0 : Int) (s0) M) (m1 : HP 47 (s0) (s1) M) (f0 : 0 ≤ ((-1) * s1 + 524346)) (hG : gI M) : (HP 280 (0 : Int) (s0) M ∧ True) := by
  obtain ⟨p0, e0, he⟩ := Eq.mp hp_279 m0
  have e1 : p0 = s0.toNat := by omega
  subst e1
  have k1 : tK (tm M) s0.toNat = _ := (q47 m1).2
  exact ⟨Eq.mpr hp_280 (Or.inr (Or.inr ⟨_, he, Or.inl ⟨by omega, by omega⟩⟩)), trivial⟩
theorem rul_370 : Rul r_370 := by
  refine ⟨fun _ ρ M hm hB hF hG => ?_, fun gi gv hg => (by cases hg)⟩
  have H := cr_370 M (ρ 0) (ρ 1) (hB _ List.mem_cons_self) (hB _ (List.mem_cons_of_mem _ List.mem_cons_self)) (cvp 279 (x' := (0 : Int)) (y' := ((ρ 0))) (by show 0 + 0 = _; omega) (by show 0 + (1 * ρ 0 + 0) = _; omega) (hm _ List.mem_cons_self)) (cvp 47 (x' := ((ρ 0))) (y' := ((ρ 1))) (by show 0 + (1 * ρ 0 + 0) = _; omega) (by show 0 + (1 * ρ 1 + 0) = _; omega) (hm _ (List.mem_cons_of_mem _ List.mem_cons_self))) (by have h := hF _ List.mem_cons_self; have h : 0 ≤ 524346 + ((-1) * ρ 1 + 0) := h; omega) hG
  obtain ⟨k0, -⟩ := H
  exact ⟨_, List.mem_cons_self, ρ, fun _ _ => rfl, (okM_c (pvp 280 (by show 0 + 0 = _; omega) (by show 0 + (1 * ρ 0 + 0) = _; omega) k0) okM_n), okB_n, okF_n⟩
-- rrs1
theorem cr_371 (M : pM) (s0 s1 : Int) (b0 : 0 ≤ s0 ∧ s0 ≤ 1900) (b1 : (-1) ≤ s1 ∧ s1 ≤ 600000) (m0 : HP 279 (0 : Int) (s0) M) (m1 : HP 47 (s0) (s1) M) (f0 : 0 ≤ (s1 - 524348)) (hG : gI M) : (HP 280 (0 : Int) (s0) M ∧ True) := by
  obtain ⟨p0, e0, he⟩ := Eq.mp hp_279 m0
  have e1 : p0 = s0.toNat := by omega
  subst e1
  have k1 : tK (tm M) s0.toNat = _ := (q47 m1).2
  exact ⟨Eq.mpr hp_280 (Or.inr (Or.inr ⟨_, he, Or.inl ⟨by omega, by omega⟩⟩)), trivial⟩
theorem rul_371 : Rul r_371 := by
  refine ⟨fun _ ρ M hm hB hF hG => ?_, fun gi gv hg => (by cases hg)⟩
  have H := cr_371 M (ρ 0) (ρ 1) (hB _ List.mem_cons_self) (hB _ (List.mem_cons_of_mem _ List.mem_cons_self)) (cvp 279 (x' := (0 : Int)) (y' := ((ρ 0))) (by show 0 + 0 = _; omega) (by show 0 + (1 * ρ 0 + 0) = _; omega) (hm _ List.mem_cons_self)) (cvp 47 (x' := ((ρ 0))) (y' := ((ρ 1))) (by show 0 + (1 * ρ 0 + 0) = _; omega) (by show 0 + (1 * ρ 1 + 0) = _; omega) (hm _ (List.mem_cons_of_mem _ List.mem_cons_self))) (by have h := hF _ List.mem_cons_self; have h : 0 ≤ (-524348) + (1 * ρ 1 + 0) := h; omega) hG
  obtain ⟨k0, -⟩ := H
  exact ⟨_, List.mem_cons_self, ρ, fun _ _ => rfl, (okM_c (pvp 280 (by show 0 + 0 = _; omega) (by show 0 + (1 * ρ 0 + 0) = _; omega) k0) okM_n), okB_n, okF_n⟩
-- rr1
theorem cr_372 (M : pM) (s0 s1 : Int) (b0 : 0 ≤ s0 ∧ s0 ≤ 1900) (b1 : 0 ≤ s1 ∧ s1 ≤ 1900) (m0 : HP 279 (0 : Int) (s0) M) (m1 : HP 47 (s0) (524347 : Int) M) (m2 : HP 46 (s0) (s1) M) (hG : gI M) : (HP 284 (0 : Int) (s1) M ∧ True) := by
  obtain ⟨p0, e0, he⟩ := Eq.mp hp_279 m0
  have e1 : p0 = s0.toNat := by omega
  subst e1
  have k1 : tK (tm M) s0.toNat = _ := (q47 m1).2
  exact ⟨Eq.mpr hp_284 ⟨_, he, k1, (q46 m2).2⟩, trivial⟩
theorem rul_372 : Rul r_372 := by
  refine ⟨fun _ ρ M hm hB hF hG => ?_, fun gi gv hg => (by cases hg)⟩
  have H := cr_372 M (ρ 0) (ρ 1) (hB _ List.mem_cons_self) (hB _ (List.mem_cons_of_mem _ List.mem_cons_self)) (cvp 279 (x' := (0 : Int)) (y' := ((ρ 0))) (by show 0 + 0 = _; omega) (by show 0 + (1 * ρ 0 + 0) = _; omega) (hm _ List.mem_cons_self)) (cvp 47 (x' := ((ρ 0))) (y' := (524347 : Int)) (by show 0 + (1 * ρ 0 + 0) = _; omega) (by show 524347 + 0 = _; omega) (hm _ (List.mem_cons_of_mem _ List.mem_cons_self))) (cvp 46 (x' := ((ρ 0))) (y' := ((ρ 1))) (by show 0 + (1 * ρ 0 + 0) = _; omega) (by show 0 + (1 * ρ 1 + 0) = _; omega) (hm _ (List.mem_cons_of_mem _ (List.mem_cons_of_mem _ List.mem_cons_self)))) hG
  obtain ⟨k0, -⟩ := H
  exact ⟨_, List.mem_cons_self, ρ, fun _ _ => rfl, (okM_c (pvp 284 (by show 0 + 0 = _; omega) (by show 0 + (1 * ρ 1 + 0) = _; omega) k0) okM_n), okB_n, okF_n⟩
-- rrt0
theorem cr_373 (M : pM) (s0 s1 : Int) (b0 : 0 ≤ s0 ∧ s0 ≤ 1900) (b1 : (-1) ≤ s1 ∧ s1 ≤ 600000) (m0 : HP 284 (0 : Int) (s0) M) (m1 : HP 47 (s0) (s1) M) (f0 : 0 ≤ ((-1) * s1 + 131070)) (hG : gI M) : (HP 280 (0 : Int) (s0) M ∧ True) := by
  obtain ⟨p0, he, k1, e0⟩ := Eq.mp hp_284 m0
  have k2 : tK (tm M) s0.toNat = _ := (q47 m1).2
  rw [show s0.toNat = tE (tm M) p0 by omega] at k2
  exact ⟨Eq.mpr hp_280 (Or.inr (Or.inr ⟨p0, he, Or.inr ⟨k1, by omega, e0⟩⟩)), trivial⟩
theorem rul_373 : Rul r_373 := by
  refine ⟨fun _ ρ M hm hB hF hG => ?_, fun gi gv hg => (by cases hg)⟩
  have H := cr_373 M (ρ 0) (ρ 1) (hB _ List.mem_cons_self) (hB _ (List.mem_cons_of_mem _ List.mem_cons_self)) (cvp 284 (x' := (0 : Int)) (y' := ((ρ 0))) (by show 0 + 0 = _; omega) (by show 0 + (1 * ρ 0 + 0) = _; omega) (hm _ List.mem_cons_self)) (cvp 47 (x' := ((ρ 0))) (y' := ((ρ 1))) (by show 0 + (1 * ρ 0 + 0) = _; omega) (by show 0 + (1 * ρ 1 + 0) = _; omega) (hm _ (List.mem_cons_of_mem _ List.mem_cons_self))) (by have h := hF _ List.mem_cons_self; have h : 0 ≤ 131070 + ((-1) * ρ 1 + 0) := h; omega) hG
  obtain ⟨k0, -⟩ := H
  exact ⟨_, List.mem_cons_self, ρ, fun _ _ => rfl, (okM_c (pvp 280 (by show 0 + 0 = _; omega) (by show 0 + (1 * ρ 0 + 0) = _; omega) k0) okM_n), okB_n, okF_n⟩
-- rrt1
theorem cr_374 (M : pM) (s0 s1 : Int) (b0 : 0 ≤ s0 ∧ s0 ≤ 1900) (b1 : (-1) ≤ s1 ∧ s1 ≤ 600000) (m0 : HP 284 (0 : Int) (s0) M) (m1 : HP 47 (s0) (s1) M) (f0 : 0 ≤ (s1 - 131072)) (hG : gI M) : (HP 280 (0 : Int) (s0) M ∧ True) := by
  obtain ⟨p0, he, k1, e0⟩ := Eq.mp hp_284 m0
  have k2 : tK (tm M) s0.toNat = _ := (q47 m1).2
  rw [show s0.toNat = tE (tm M) p0 by omega] at k2
  exact ⟨Eq.mpr hp_280 (Or.inr (Or.inr ⟨p0, he, Or.inr ⟨k1, by omega, e0⟩⟩)), trivial⟩
theorem rul_374 : Rul r_374 := by
  refine ⟨fun _ ρ M hm hB hF hG => ?_, fun gi gv hg => (by cases hg)⟩
  have H := cr_374 M (ρ 0) (ρ 1) (hB _ List.mem_cons_self) (hB _ (List.mem_cons_of_mem _ List.mem_cons_self)) (cvp 284 (x' := (0 : Int)) (y' := ((ρ 0))) (by show 0 + 0 = _; omega) (by show 0 + (1 * ρ 0 + 0) = _; omega) (hm _ List.mem_cons_self)) (cvp 47 (x' := ((ρ 0))) (y' := ((ρ 1))) (by show 0 + (1 * ρ 0 + 0) = _; omega) (by show 0 + (1 * ρ 1 + 0) = _; omega) (hm _ (List.mem_cons_of_mem _ List.mem_cons_self))) (by have h := hF _ List.mem_cons_self; have h : 0 ≤ (-131072) + (1 * ρ 1 + 0) := h; omega) hG
  obtain ⟨k0, -⟩ := H
  exact ⟨_, List.mem_cons_self, ρ, fun _ _ => rfl, (okM_c (pvp 280 (by show 0 + 0 = _; omega) (by show 0 + (1 * ρ 0 + 0) = _; omega) k0) okM_n), okB_n, okF_n⟩
-- rro
theorem cr_375 (M : pM) (s0 : Int) (b0 : 0 ≤ s0 ∧ s0 ≤ 1900) (m0 : HP 284 (0 : Int) (s0) M) (m1 : HP 47 (s0) (131071 : Int) M) (hG : gI M) : (HP 281 (0 : Int) (0 : Int) M ∧ True) := by
  obtain ⟨p0, he, k1, e0⟩ := Eq.mp hp_284 m0
  have k2 : tK (tm M) s0.toNat = _ := (q47 m1).2
  rw [show s0.toNat = tE (tm M) p0 by omega] at k2
  exact ⟨Eq.mpr hp_281 ⟨p0, he, k1, by omega⟩, trivial⟩
theorem rul_375 : Rul r_375 := by
  refine ⟨fun _ ρ M hm hB hF hG => ?_, fun gi gv hg => (by cases hg)⟩
  have H := cr_375 M (ρ 0) (hB _ List.mem_cons_self) (cvp 284 (x' := (0 : Int)) (y' := ((ρ 0))) (by show 0 + 0 = _; omega) (by show 0 + (1 * ρ 0 + 0) = _; omega) (hm _ List.mem_cons_self)) (cvp 47 (x' := ((ρ 0))) (y' := (131071 : Int)) (by show 0 + (1 * ρ 0 + 0) = _; omega) (by show 131071 + 0 = _; omega) (hm _ (List.mem_cons_of_mem _ List.mem_cons_self))) hG
  obtain ⟨k0, -⟩ := H
  exact ⟨_, List.mem_cons_self, ρ, fun _ _ => rfl, (okM_c (pvp 281 (by show 0 + 0 = _; omega) (by show 0 + 0 = _; omega) k0) okM_n), okB_n, okF_n⟩
-- lq0
theorem cr_376 (M : pM) (s0 s1 : Int) (b0 : 0 ≤ s0 ∧ s0 ≤ 1900) (b1 : 0 ≤ s1 ∧ s1 ≤ 1900) (m0 : HP 275 (0 : Int) (s0) M) (m1 : HP 280 (0 : Int) (s1) M) (hG : gI M) : (0 ≤ ((-1) * s0 + s1) ∧ 0 ≤ (s0 + (-1) * s1) ∧ True) := by
  have e := rf_u (lf_rf (Eq.mp hp_275 m0)) (Eq.mp hp_280 m1)
  exact ⟨by omega, by omega, trivial⟩
theorem rul_376 : Rul r_376 := by
  refine ⟨fun _ ρ M hm hB hF hG => ?_, fun gi gv hg => (by cases hg)⟩
  have H := cr_376 M (ρ 0) (ρ 1) (hB _ List.mem_cons_self) (hB _ (List.mem_cons_of_mem _ List.mem_cons_self)) (cvp 275 (x' := (0 : Int)) (y' := ((ρ 0))) (by show 0 + 0 = _; omega) (by show 0 + (1 * ρ 0 + 0) = _; omega) (hm _ List.mem_cons_self)) (cvp 280 (x' := (0 : Int)) (y' := ((ρ 1))) (by show 0 + 0 = _; omega) (by show 0 + (1 * ρ 1 + 0) = _; omega) (hm _ (List.mem_cons_of_mem _ List.mem_cons_self))) hG
  obtain ⟨f0, f1, -⟩ := H
  exact ⟨_, List.mem_cons_self, ρ, fun _ _ => rfl, okM_n, okB_n, (okF_c (by show 0 ≤ 0 + ((-1) * ρ 0 + (1 * ρ 1 + 0)); omega) (okF_c (by show 0 ≤ 0 + (1 * ρ 0 + ((-1) * ρ 1 + 0)); omega) okF_n))⟩
-- lq1
theorem cr_377 (M : pM) (s0 : Int) (b0 : 0 ≤ s0 ∧ s0 ≤ 1900) (m0 : HP 275 (0 : Int) (s0) M) (m1 : HP 281 (0 : Int) (0 : Int) M) (hG : gI M) : (0 ≤ (s0 - 1901) ∧ True) := by
  exact (rf_g (lf_rf (Eq.mp hp_275 m0)) (Eq.mp hp_281 m1)).elim
theorem rul_377 : Rul r_377 := by
  refine ⟨fun _ ρ M hm hB hF hG => ?_, fun gi gv hg => (by cases hg)⟩
  have H := cr_377 M (ρ 0) (hB _ List.mem_cons_self) (cvp 275 (x' := (0 : Int)) (y' := ((ρ 0))) (by show 0 + 0 = _; omega) (by show 0 + (1 * ρ 0 + 0) = _; omega) (hm _ List.mem_cons_self)) (cvp 281 (x' := (0 : Int)) (y' := (0 : Int)) (by show 0 + 0 = _; omega) (by show 0 + 0 = _; omega) (hm _ (List.mem_cons_of_mem _ List.mem_cons_self))) hG
  obtain ⟨f0, -⟩ := H
  exact ⟨_, List.mem_cons_self, ρ, fun _ _ => rfl, okM_n, okB_n, (okF_c (by show 0 ≤ (-1901) + (1 * ρ 0 + 0); omega) okF_n)⟩
-- lq2
theorem cr_378 (M : pM) (s0 : Int) (b0 : 0 ≤ s0 ∧ s0 ≤ 1900) (m0 : HP 274 (0 : Int) (0 : Int) M) (m1 : HP 280 (0 : Int) (s0) M) (hG : gI M) : (0 ≤ (s0 - 1901) ∧ True) := by
  exact (rf_g (Eq.mp hp_280 m1) (lr_rg (Eq.mp hp_274 m0))).elim
theorem rul_378 : Rul r_378 := by
  refine ⟨fun _ ρ M hm hB hF hG => ?_, fun gi gv hg => (by cases hg)⟩
  have H := cr_378 M (ρ 0) (hB _ List.mem_cons_self) (cvp 274 (x' := (0 : Int)) (y' := (0 : Int)) (by show 0 + 0 = _; omega) (by show 0 + 0 = _; omega) (hm _ List.mem_cons_self)) (cvp 280 (x' := (0 : Int)) (y' := ((ρ 0))) (by show 0 + 0 = _; omega) (by show 0 + (1 * ρ 0 + 0) = _; omega) (hm _ (List.mem_cons_of_mem _ List.mem_cons_self))) hG
  obtain ⟨f0, -⟩ := H
  exact ⟨_, List.mem_cons_self, ρ, fun _ _ => rfl, okM_n, okB_n, (okF_c (by show 0 ≤ (-1901) + (1 * ρ 0 + 0); omega) okF_n)⟩
-- ksp
theorem cr_379 (M : pM) (s0 : Int) (b0 : 0 ≤ s0 ∧ s0 ≤ 23) (hG : gI M) : (0 ≤ ((-1) * s0 + 15) ∧ True) ∨ (0 ≤ (s0 - 16) ∧ True) := by
  by_cases h : s0 ≤ 15
  · exact Or.inl ⟨by omega, trivial⟩
  · exact Or.inr ⟨by omega, trivial⟩
theorem rul_379 : Rul r_379 := by
  refine ⟨fun _ ρ M hm hB hF hG => ?_, fun gi gv hg => (by cases hg)⟩
  have H := cr_379 M (ρ 0) (hB _ List.mem_cons_self) hG
  rcases H with H | H
  · skip
    obtain ⟨f0, -⟩ := H
    exact ⟨_, List.mem_cons_self, ρ, fun _ _ => rfl, okM_n, okB_n, (okF_c (by show 0 ≤ 15 + ((-1) * ρ 0 + 0); omega) okF_n)⟩
  · skip
    obtain ⟨f0, -⟩ := H
    exact ⟨_, (List.mem_cons_of_mem _ List.mem_cons_self), ρ, fun _ _ => rfl, okM_n, okB_n, (okF_c (by show 0 ≤ (-16) + (1 * ρ 0 + 0); omega) okF_n)⟩
-- wkn13_0
theorem cr_380 (M : pM) (s0 s1 : Int) (b0 : 0 ≤ s0 ∧ s0 ≤ 23) (b1 : 0 ≤ s1 ∧ s1 ≤ 9223372036854775807) (m0 : HP 140 (s0) (s1) M) (f0 : 0 ≤ ((-1) * s1 + 495589487204)) (hG : gI M) : (0 ≤ ((-1) * s0 + 12) ∧ True) ∨ (0 ≤ (s0 - 14) ∧ True) := by
  obtain ⟨k, w1, w2, w3⟩ := Eq.mp hp_140 m0
  have hk : k < 13 ∨ k = 13 ∨ 13 < k := by omega
  rcases hk with e | e | e
  · exact Or.inl ⟨by omega, trivial⟩
  · subst e
    rw [show qwn 13 = 495589487205 by decide] at w3
    omega
  · exact Or.inr ⟨by omega, trivial⟩
theorem rul_380 : Rul r_380 := by
  refine ⟨fun _ ρ M hm hB hF hG => ?_, fun gi gv hg => (by cases hg)⟩
  have H := cr_380 M (ρ 0) (ρ 1) (hB _ List.mem_cons_self) (hB _ (List.mem_cons_of_mem _ List.mem_cons_self)) (cvp 140 (x' := ((ρ 0))) (y' := ((ρ 1))) (by show 0 + (1 * ρ 0 + 0) = _; omega) (by show 0 + (1 * ρ 1 + 0) = _; omega) (hm _ List.mem_cons_self)) (by have h := hF _ List.mem_cons_self; have h : 0 ≤ 495589487204 + ((-1) * ρ 1 + 0) := h; omega) hG
  rcases H with H | H
  · skip
    obtain ⟨f0, -⟩ := H
    exact ⟨_, List.mem_cons_self, ρ, fun _ _ => rfl, okM_n, okB_n, (okF_c (by show 0 ≤ 12 + ((-1) * ρ 0 + 0); omega) okF_n)⟩
  · skip
    obtain ⟨f0, -⟩ := H
    exact ⟨_, (List.mem_cons_of_mem _ List.mem_cons_self), ρ, fun _ _ => rfl, okM_n, okB_n, (okF_c (by show 0 ≤ (-14) + (1 * ρ 0 + 0); omega) okF_n)⟩
-- wkn13_1
theorem cr_381 (M : pM) (s0 s1 : Int) (b0 : 0 ≤ s0 ∧ s0 ≤ 23) (b1 : 0 ≤ s1 ∧ s1 ≤ 9223372036854775807) (m0 : HP 140 (s0) (s1) M) (f0 : 0 ≤ (s1 - 495589487206)) (hG : gI M) : (0 ≤ ((-1) * s0 + 12) ∧ True) ∨ (0 ≤ (s0 - 14) ∧ True) := by
  obtain ⟨k, w1, w2, w3⟩ := Eq.mp hp_140 m0
  have hk : k < 13 ∨ k = 13 ∨ 13 < k := by omega
  rcases hk with e | e | e
  · exact Or.inl ⟨by omega, trivial⟩
  · subst e
    rw [show qwn 13 = 495589487205 by decide] at w3
    omega
  · exact Or.inr ⟨by omega, trivial⟩
theorem rul_381 : Rul r_381 := by
  refine ⟨fun _ ρ M hm hB hF hG => ?_, fun gi gv hg => (by cases hg)⟩
  have H := cr_381 M (ρ 0) (ρ 1) (hB _ List.mem_cons_self) (hB _ (List.mem_cons_of_mem _ List.mem_cons_self)) (cvp 140 (x' := ((ρ 0))) (y' := ((ρ 1))) (by show 0 + (1 * ρ 0 + 0) = _; omega) (by show 0 + (1 * ρ 1 + 0) = _; omega) (hm _ List.mem_cons_self)) (by have h := hF _ List.mem_cons_self; have h : 0 ≤ (-495589487206) + (1 * ρ 1 + 0) := h; omega) hG
  rcases H with H | H
  · skip
    obtain ⟨f0, -⟩ := H
    exact ⟨_, List.mem_cons_self, ρ, fun _ _ => rfl, okM_n, okB_n, (okF_c (by show 0 ≤ 12 + ((-1) * ρ 0 + 0); omega) okF_n)⟩
  · skip
    obtain ⟨f0, -⟩ := H
    exact ⟨_, (List.mem_cons_of_mem _ List.mem_cons_self), ρ, fun _ _ => rfl, okM_n, okB_n, (okF_c (by show 0 ≤ (-14) + (1 * ρ 0 + 0); omega) okF_n)⟩
-- wkq13
theorem cr_382 (M : pM) (s0 s1 : Int) (b0 : 0 ≤ s0 ∧ s0 ≤ 23) (b1 : 0 ≤ s1 ∧ s1 ≤ 9223372036854775807) (m0 : HP 140 (s0) (s1) M) (f0 : 0 ≤ ((-1) * s1 + 495589487205)) (f1 : 0 ≤ (s1 - 495589487205)) (hG : gI M) : (0 ≤ ((-1) * s0 + 13) ∧ 0 ≤ (s0 - 13) ∧ True) := by
  obtain ⟨k, w1, w2, w3⟩ := Eq.mp hp_140 m0
  have hk : k = 13 := (by decide : ∀ k, k < 24 → qwn k = 495589487205 → k = 13) k w1 (by omega)
  exact ⟨by omega, by omega, trivial⟩
theorem rul_382 : Rul r_382 := by
  refine ⟨fun _ ρ M hm hB hF hG => ?_, fun gi gv hg => (by cases hg)⟩
  have H := cr_382 M (ρ 0) (ρ 1) (hB _ List.mem_cons_self) (hB _ (List.mem_cons_of_mem _ List.mem_cons_self)) (cvp 140 (x' := ((ρ 0))) (y' := ((ρ 1))) (by show 0 + (1 * ρ 0 + 0) = _; omega) (by show 0 + (1 * ρ 1 + 0) = _; omega) (hm _ List.mem_cons_self)) (by have h := hF _ List.mem_cons_self; have h : 0 ≤ 495589487205 + ((-1) * ρ 1 + 0) := h; omega) (by have h := hF _ (List.mem_cons_of_mem _ List.mem_cons_self); have h : 0 ≤ (-495589487205) + (1 * ρ 1 + 0) := h; omega) hG
  obtain ⟨f0, f1, -⟩ := H
  exact ⟨_, List.mem_cons_self, ρ, fun _ _ => rfl, okM_n, okB_n, (okF_c (by show 0 ≤ 13 + ((-1) * ρ 0 + 0); omega) (okF_c (by show 0 ≤ (-13) + (1 * ρ 0 + 0); omega) okF_n))⟩
-- wkn14_0
theorem cr_383 (M : pM) (s0 s1 : Int) (b0 : 0 ≤ s0 ∧ s0 ≤ 23) (b1 : 0 ≤ s1 ∧ s1 ≤ 9223372036854775807) (m0 : HP 140 (s0) (s1) M) (f0 : 0 ≤ ((-1) * s1 + 6385251)) (hG : gI M) : (0 ≤ ((-1) * s0 + 13) ∧ True) ∨ (0 ≤ (s0 - 15) ∧ True) := by
  obtain ⟨k, w1, w2, w3⟩ := Eq.mp hp_140 m0
  have hk : k < 14 ∨ k = 14 ∨ 14 < k := by omega
  rcases hk with e | e | e
  · exact Or.inl ⟨by omega, trivial⟩
  · subst e
    rw [show qwn 14 = 6385252 by decide] at w3
    omega
  · exact Or.inr ⟨by omega, trivial⟩
theorem rul_383 : Rul r_383 := by
  refine ⟨fun _ ρ M hm hB hF hG => ?_, fun gi gv hg => (by cases hg)⟩
  have H := cr_383 M (ρ 0) (ρ 1) (hB _ List.mem_cons_self) (hB _ (List.mem_cons_of_mem _ List.mem_cons_self)) (cvp 140 (x' := ((ρ 0))) (y' := ((ρ 1))) (by show 0 + (1 * ρ 0 + 0) = _; omega) (by show 0 + (1 * ρ 1 + 0) = _; omega) (hm _ List.mem_cons_self)) (by have h := hF _ List.mem_cons_self; have h : 0 ≤ 6385251 + ((-1) * ρ 1 + 0) := h; omega) hG
  rcases H with H | H
  · skip
    obtain ⟨f0, -⟩ := H
    exact ⟨_, List.mem_cons_self, ρ, fun _ _ => rfl, okM_n, okB_n, (okF_c (by show 0 ≤ 13 + ((-1) * ρ 0 + 0); omega) okF_n)⟩
  · skip
    obtain ⟨f0, -⟩ := H
    exact ⟨_, (List.mem_cons_of_mem _ List.mem_cons_self), ρ, fun _ _ => rfl, okM_n, okB_n, (okF_c (by show 0 ≤ (-15) + (1 * ρ 0 + 0); omega) okF_n)⟩
-- wkn14_1
theorem cr_384 (M : pM) (s0 s1 : Int) (b0 : 0 ≤ s0 ∧ s0 ≤ 23) (b1 : 0 ≤ s1 ∧ s1 ≤ 9223372036854775807) (m0 : HP 140 (s0) (s1) M) (f0 : 0 ≤ (s1 - 6385253)) (hG : gI M) : (0 ≤ ((-1) * s0 + 13) ∧ True) ∨ (0 ≤ (s0 - 15) ∧ True) := by
  obtain ⟨k, w1, w2, w3⟩ := Eq.mp hp_140 m0
  have hk : k < 14 ∨ k = 14 ∨ 14 < k := by omega
  rcases hk with e | e | e
  · exact Or.inl ⟨by omega, trivial⟩
  · subst e
    rw [show qwn 14 = 6385252 by decide] at w3
    omega
  · exact Or.inr ⟨by omega, trivial⟩
theorem rul_384 : Rul r_384 := by
  refine ⟨fun _ ρ M hm hB hF hG => ?_, fun gi gv hg => (by cases hg)⟩
  have H := cr_384 M (ρ 0) (ρ 1) (hB _ List.mem_cons_self) (hB _ (List.mem_cons_of_mem _ List.mem_cons_self)) (cvp 140 (x' := ((ρ 0))) (y' := ((ρ 1))) (by show 0 + (1 * ρ 0 + 0) = _; omega) (by show 0 + (1 * ρ 1 + 0) = _; omega) (hm _ List.mem_cons_self)) (by have h := hF _ List.mem_cons_self; have h : 0 ≤ (-6385253) + (1 * ρ 1 + 0) := h; omega) hG
  rcases H with H | H
  · skip
    obtain ⟨f0, -⟩ := H
    exact ⟨_, List.mem_cons_self, ρ, fun _ _ => rfl, okM_n, okB_n, (okF_c (by show 0 ≤ 13 + ((-1) * ρ 0 + 0); omega) okF_n)⟩
  · skip
    obtain ⟨f0, -⟩ := H
    exact ⟨_, (List.mem_cons_of_mem _ List.mem_cons_self), ρ, fun _ _ => rfl, okM_n, okB_n, (okF_c (by show 0 ≤ (-15) + (1 * ρ 0 + 0); omega) okF_n)⟩
-- wkq14
theorem cr_385 (M : pM) (s0 s1 : Int) (b0 : 0 ≤ s0 ∧ s0 ≤ 23) (b1 : 0 ≤ s1 ∧ s1 ≤ 9223372036854775807) (m0 : HP 140 (s0) (s1) M) (f0 : 0 ≤ ((-1) * s1 + 6385252)) (f1 : 0 ≤ (s1 - 6385252)) (hG : gI M) : (0 ≤ ((-1) * s0 + 14) ∧ 0 ≤ (s0 - 14) ∧ True) := by
  obtain ⟨k, w1, w2, w3⟩ := Eq.mp hp_140 m0
  have hk : k = 14 := (by decide : ∀ k, k < 24 → qwn k = 6385252 → k = 14) k w1 (by omega)
  exact ⟨by omega, by omega, trivial⟩
theorem rul_385 : Rul r_385 := by
  refine ⟨fun _ ρ M hm hB hF hG => ?_, fun gi gv hg => (by cases hg)⟩
  have H := cr_385 M (ρ 0) (ρ 1) (hB _ List.mem_cons_self) (hB _ (List.mem_cons_of_mem _ List.mem_cons_self)) (cvp 140 (x' := ((ρ 0))) (y' := ((ρ 1))) (by show 0 + (1 * ρ 0 + 0) = _; omega) (by show 0 + (1 * ρ 1 + 0) = _; omega) (hm _ List.mem_cons_self)) (by have h := hF _ List.mem_cons_self; have h : 0 ≤ 6385252 + ((-1) * ρ 1 + 0) := h; omega) (by have h := hF _ (List.mem_cons_of_mem _ List.mem_cons_self); have h : 0 ≤ (-6385252) + (1 * ρ 1 + 0) := h; omega) hG
  obtain ⟨f0, f1, -⟩ := H
  exact ⟨_, List.mem_cons_self, ρ, fun _ _ => rfl, okM_n, okB_n, (okF_c (by show 0 ≤ 14 + ((-1) * ρ 0 + 0); omega) (okF_c (by show 0 ≤ (-14) + (1 * ρ 0 + 0); omega) okF_n))⟩
-- wkn15_0
theorem cr_386 (M : pM) (s0 s1 : Int) (b0 : 0 ≤ s0 ∧ s0 ≤ 23) (b1 : 0 ≤ s1 ∧ s1 ≤ 9223372036854775807) (m0 : HP 140 (s0) (s1) M) (f0 : 0 ≤ ((-1) * s1 + 28529)) (hG : gI M) : (0 ≤ ((-1) * s0 + 14) ∧ True) ∨ (0 ≤ (s0 - 16) ∧ True) := by
  obtain ⟨k, w1, w2, w3⟩ := Eq.mp hp_140 m0
  have hk : k < 15 ∨ k = 15 ∨ 15 < k := by omega
  rcases hk with e | e | e
  · exact Or.inl ⟨by omega, trivial⟩
  · subst e
    rw [show qwn 15 = 28530 by decide] at w3
    omega
  · exact Or.inr ⟨by omega, trivial⟩
theorem rul_386 : Rul r_386 := by
  refine ⟨fun _ ρ M hm hB hF hG => ?_, fun gi gv hg => (by cases hg)⟩
  have H := cr_386 M (ρ 0) (ρ 1) (hB _ List.mem_cons_self) (hB _ (List.mem_cons_of_mem _ List.mem_cons_self)) (cvp 140 (x' := ((ρ 0))) (y' := ((ρ 1))) (by show 0 + (1 * ρ 0 + 0) = _; omega) (by show 0 + (1 * ρ 1 + 0) = _; omega) (hm _ List.mem_cons_self)) (by have h := hF _ List.mem_cons_self; have h : 0 ≤ 28529 + ((-1) * ρ 1 + 0) := h; omega) hG
  rcases H with H | H
  · skip
    obtain ⟨f0, -⟩ := H
    exact ⟨_, List.mem_cons_self, ρ, fun _ _ => rfl, okM_n, okB_n, (okF_c (by show 0 ≤ 14 + ((-1) * ρ 0 + 0); omega) okF_n)⟩
  · skip
    obtain ⟨f0, -⟩ := H
    exact ⟨_, (List.mem_cons_of_mem _ List.mem_cons_self), ρ, fun _ _ => rfl, okM_n, okB_n, (okF_c (by show 0 ≤ (-16) + (1 * ρ 0 + 0); omega) okF_n)⟩
-- wkn15_1
theorem cr_387 (M : pM) (s0 s1 : Int) (b0 : 0 ≤ s0 ∧ s0 ≤ 23) (b1 : 0 ≤ s1 ∧ s1 ≤ 9223372036854775807) (m0 : HP 140 (s0) (s1) M) (f0 : 0 ≤ (s1 - 28531)) (hG : gI M) : (0 ≤ ((-1) * s0 + 14) ∧ True) ∨ (0 ≤ (s0 - 16) ∧ True) := by
  obtain ⟨k, w1, w2, w3⟩ := Eq.mp hp_140 m0
  have hk : k < 15 ∨ k = 15 ∨ 15 < k := by omega
  rcases hk with e | e | e
  · exact Or.inl ⟨by omega, trivial⟩
  · subst e
    rw [show qwn 15 = 28530 by decide] at w3
    omega
  · exact Or.inr ⟨by omega, trivial⟩
theorem rul_387 : Rul r_387 := by
  refine ⟨fun _ ρ M hm hB hF hG => ?_, fun gi gv hg => (by cases hg)⟩
  have H := cr_387 M (ρ 0) (ρ 1) (hB _ List.mem_cons_self) (hB _ (List.mem_cons_of_mem _ List.mem_cons_self)) (cvp 140 (x' := ((ρ 0))) (y' := ((ρ 1))) (by show 0 + (1 * ρ 0 + 0) = _; omega) (by show 0 + (1 * ρ 1 + 0) = _; omega) (hm _ List.mem_cons_self)) (by have h := hF _ List.mem_cons_self; have h : 0 ≤ (-28531) + (1 * ρ 1 + 0) := h; omega) hG
  rcases H with H | H
  · skip
    obtain ⟨f0, -⟩ := H
    exact ⟨_, List.mem_cons_self, ρ, fun _ _ => rfl, okM_n, okB_n, (okF_c (by show 0 ≤ 14 + ((-1) * ρ 0 + 0); omega) okF_n)⟩
  · skip
    obtain ⟨f0, -⟩ := H
    exact ⟨_, (List.mem_cons_of_mem _ List.mem_cons_self), ρ, fun _ _ => rfl, okM_n, okB_n, (okF_c (by show 0 ≤ (-16) + (1 * ρ 0 + 0); omega) okF_n)⟩
-- wkq15
theorem cr_388 (M : pM) (s0 s1 : Int) (b0 : 0 ≤ s0 ∧ s0 ≤ 23) (b1 : 0 ≤ s1 ∧ s1 ≤ 9223372036854775807) (m0 : HP 140 (s0) (s1) M) (f0 : 0 ≤ ((-1) * s1 + 28530)) (f1 : 0 ≤ (s1 - 28530)) (hG : gI M) : (0 ≤ ((-1) * s0 + 15) ∧ 0 ≤ (s0 - 15) ∧ True) := by
  obtain ⟨k, w1, w2, w3⟩ := Eq.mp hp_140 m0
  have hk : k = 15 := (by decide : ∀ k, k < 24 → qwn k = 28530 → k = 15) k w1 (by omega)
  exact ⟨by omega, by omega, trivial⟩
theorem rul_388 : Rul r_388 := by
  refine ⟨fun _ ρ M hm hB hF hG => ?_, fun gi gv hg => (by cases hg)⟩
  have H := cr_388 M (ρ 0) (ρ 1) (hB _ List.mem_cons_self) (hB _ (List.mem_cons_of_mem _ List.mem_cons_self)) (cvp 140 (x' := ((ρ 0))) (y' := ((ρ 1))) (by show 0 + (1 * ρ 0 + 0) = _; omega) (by show 0 + (1 * ρ 1 + 0) = _; omega) (hm _ List.mem_cons_self)) (by have h := hF _ List.mem_cons_self; have h : 0 ≤ 28530 + ((-1) * ρ 1 + 0) := h; omega) (by have h := hF _ (List.mem_cons_of_mem _ List.mem_cons_self); have h : 0 ≤ (-28530) + (1 * ρ 1 + 0) := h; omega) hG
  obtain ⟨f0, f1, -⟩ := H
  exact ⟨_, List.mem_cons_self, ρ, fun _ _ => rfl, okM_n, okB_n, (okF_c (by show 0 ≤ 15 + ((-1) * ρ 0 + 0); omega) (okF_c (by show 0 ≤ (-15) + (1 * ρ 0 + 0); omega) okF_n))⟩
-- wkn16_0
theorem cr_389 (M : pM) (s0 s1 : Int) (b0 : 0 ≤ s0 ∧ s0 ≤ 23) (b1 : 0 ≤ s1 ∧ s1 ≤ 9223372036854775807) (m0 : HP 140 (s0) (s1) M) (f0 : 0 ≤ ((-1) * s1 + 7237491)) (hG : gI M) : (0 ≤ ((-1) * s0 + 15) ∧ True) ∨ (0 ≤ (s0 - 17) ∧ True) := by
  obtain ⟨k, w1, w2, w3⟩ := Eq.mp hp_140 m0
  have hk : k < 16 ∨ k = 16 ∨ 16 < k := by omega
  rcases hk with e | e | e
  · exact Or.inl ⟨by omega, trivial⟩
  · subst e
    rw [show qwn 16 = 7237492 by decide] at w3
    omega
  · exact Or.inr ⟨by omega, trivial⟩
theorem rul_389 : Rul r_389 := by
  refine ⟨fun _ ρ M hm hB hF hG => ?_, fun gi gv hg => (by cases hg)⟩
  have H := cr_389 M (ρ 0) (ρ 1) (hB _ List.mem_cons_self) (hB _ (List.mem_cons_of_mem _ List.mem_cons_self)) (cvp 140 (x' := ((ρ 0))) (y' := ((ρ 1))) (by show 0 + (1 * ρ 0 + 0) = _; omega) (by show 0 + (1 * ρ 1 + 0) = _; omega) (hm _ List.mem_cons_self)) (by have h := hF _ List.mem_cons_self; have h : 0 ≤ 7237491 + ((-1) * ρ 1 + 0) := h; omega) hG
  rcases H with H | H
  · skip
    obtain ⟨f0, -⟩ := H
    exact ⟨_, List.mem_cons_self, ρ, fun _ _ => rfl, okM_n, okB_n, (okF_c (by show 0 ≤ 15 + ((-1) * ρ 0 + 0); omega) okF_n)⟩
  · skip
    obtain ⟨f0, -⟩ := H
    exact ⟨_, (List.mem_cons_of_mem _ List.mem_cons_self), ρ, fun _ _ => rfl, okM_n, okB_n, (okF_c (by show 0 ≤ (-17) + (1 * ρ 0 + 0); omega) okF_n)⟩
-- wkn16_1
theorem cr_390 (M : pM) (s0 s1 : Int) (b0 : 0 ≤ s0 ∧ s0 ≤ 23) (b1 : 0 ≤ s1 ∧ s1 ≤ 9223372036854775807) (m0 : HP 140 (s0) (s1) M) (f0 : 0 ≤ (s1 - 7237493)) (hG : gI M) : (0 ≤ ((-1) * s0 + 15) ∧ True) ∨ (0 ≤ (s0 - 17) ∧ True) := by
  obtain ⟨k, w1, w2, w3⟩ := Eq.mp hp_140 m0
  have hk : k < 16 ∨ k = 16 ∨ 16 < k := by omega
  rcases hk with e | e | e
  · exact Or.inl ⟨by omega, trivial⟩
  · subst e
    rw [show qwn 16 = 7237492 by decide] at w3
    omega
  · exact Or.inr ⟨by omega, trivial⟩
theorem rul_390 : Rul r_390 := by
  refine ⟨fun _ ρ M hm hB hF hG => ?_, fun gi gv hg => (by cases hg)⟩
  have H := cr_390 M (ρ 0) (ρ 1) (hB _ List.mem_cons_self) (hB _ (List.mem_cons_of_mem _ List.mem_cons_self)) (cvp 140 (x' := ((ρ 0))) (y' := ((ρ 1))) (by show 0 + (1 * ρ 0 + 0) = _; omega) (by show 0 + (1 * ρ 1 + 0) = _; omega) (hm _ List.mem_cons_self)) (by have h := hF _ List.mem_cons_self; have h : 0 ≤ (-7237493) + (1 * ρ 1 + 0) := h; omega) hG
  rcases H with H | H
  · skip
    obtain ⟨f0, -⟩ := H
    exact ⟨_, List.mem_cons_self, ρ, fun _ _ => rfl, okM_n, okB_n, (okF_c (by show 0 ≤ 15 + ((-1) * ρ 0 + 0); omega) okF_n)⟩
  · skip
    obtain ⟨f0, -⟩ := H
    exact ⟨_, (List.mem_cons_of_mem _ List.mem_cons_self), ρ, fun _ _ => rfl, okM_n, okB_n, (okF_c (by show 0 ≤ (-17) + (1 * ρ 0 + 0); omega) okF_n)⟩
-- wkq16
theorem cr_391 (M : pM) (s0 s1 : Int) (b0 : 0 ≤ s0 ∧ s0 ≤ 23) (b1 : 0 ≤ s1 ∧ s1 ≤ 9223372036854775807) (m0 : HP 140 (s0) (s1) M) (f0 : 0 ≤ ((-1) * s1 + 7237492)) (f1 : 0 ≤ (s1 - 7237492)) (hG : gI M) : (0 ≤ ((-1) * s0 + 16) ∧ 0 ≤ (s0 - 16) ∧ True) := by
  obtain ⟨k, w1, w2, w3⟩ := Eq.mp hp_140 m0
  have hk : k = 16 := (by decide : ∀ k, k < 24 → qwn k = 7237492 → k = 16) k w1 (by omega)
  exact ⟨by omega, by omega, trivial⟩
theorem rul_391 : Rul r_391 := by
  refine ⟨fun _ ρ M hm hB hF hG => ?_, fun gi gv hg => (by cases hg)⟩
  have H := cr_391 M (ρ 0) (ρ 1) (hB _ List.mem_cons_self) (hB _ (List.mem_cons_of_mem _ List.mem_cons_self)) (cvp 140 (x' := ((ρ 0))) (y' := ((ρ 1))) (by show 0 + (1 * ρ 0 + 0) = _; omega) (by show 0 + (1 * ρ 1 + 0) = _; omega) (hm _ List.mem_cons_self)) (by have h := hF _ List.mem_cons_self; have h : 0 ≤ 7237492 + ((-1) * ρ 1 + 0) := h; omega) (by have h := hF _ (List.mem_cons_of_mem _ List.mem_cons_self); have h : 0 ≤ (-7237492) + (1 * ρ 1 + 0) := h; omega) hG
  obtain ⟨f0, f1, -⟩ := H
  exact ⟨_, List.mem_cons_self, ρ, fun _ _ => rfl, okM_n, okB_n, (okF_c (by show 0 ≤ 16 + ((-1) * ρ 0 + 0); omega) (okF_c (by show 0 ≤ (-16) + (1 * ρ 0 + 0); omega) okF_n))⟩
-- wkn17_0
theorem cr_392 (M : pM) (s0 s1 : Int) (b0 : 0 ≤ s0 ∧ s0 ≤ 23) (b1 : 0 ≤ s1 ∧ s1 ≤ 9223372036854775807) (m0 : HP 140 (s0) (s1) M) (f0 : 0 ≤ ((-1) * s1 + 1685024356)) (hG : gI M) : (0 ≤ ((-1) * s0 + 16) ∧ True) ∨ (0 ≤ (s0 - 18) ∧ True) := by
  obtain ⟨k, w1, w2, w3⟩ := Eq.mp hp_140 m0
  have hk : k < 17 ∨ k = 17 ∨ 17 < k := by omega
  rcases hk with e | e | e
  · exact Or.inl ⟨by omega, trivial⟩
  · subst e
    rw [show qwn 17 = 1685024357 by decide] at w3
    omega
  · exact Or.inr ⟨by omega, trivial⟩
theorem rul_392 : Rul r_392 := by
  refine ⟨fun _ ρ M hm hB hF hG => ?_, fun gi gv hg => (by cases hg)⟩
  have H := cr_392 M (ρ 0) (ρ 1) (hB _ List.mem_cons_self) (hB _ (List.mem_cons_of_mem _ List.mem_cons_self)) (cvp 140 (x' := ((ρ 0))) (y' := ((ρ 1))) (by show 0 + (1 * ρ 0 + 0) = _; omega) (by show 0 + (1 * ρ 1 + 0) = _; omega) (hm _ List.mem_cons_self)) (by have h := hF _ List.mem_cons_self; have h : 0 ≤ 1685024356 + ((-1) * ρ 1 + 0) := h; omega) hG
  rcases H with H | H
  · skip
    obtain ⟨f0, -⟩ := H
    exact ⟨_, List.mem_cons_self, ρ, fun _ _ => rfl, okM_n, okB_n, (okF_c (by show 0 ≤ 16 + ((-1) * ρ 0 + 0); omega) okF_n)⟩
  · skip
    obtain ⟨f0, -⟩ := H
    exact ⟨_, (List.mem_cons_of_mem _ List.mem_cons_self), ρ, fun _ _ => rfl, okM_n, okB_n, (okF_c (by show 0 ≤ (-18) + (1 * ρ 0 + 0); omega) okF_n)⟩
-- wkn17_1
theorem cr_393 (M : pM) (s0 s1 : Int) (b0 : 0 ≤ s0 ∧ s0 ≤ 23) (b1 : 0 ≤ s1 ∧ s1 ≤ 9223372036854775807) (m0 : HP 140 (s0) (s1) M) (f0 : 0 ≤ (s1 - 1685024358)) (hG : gI M) : (0 ≤ ((-1) * s0 + 16) ∧ True) ∨ (0 ≤ (s0 - 18) ∧ True) := by
  obtain ⟨k, w1, w2, w3⟩ := Eq.mp hp_140 m0
  have hk : k < 17 ∨ k = 17 ∨ 17 < k := by omega
  rcases hk with e | e | e
  · exact Or.inl ⟨by omega, trivial⟩
  · subst e
    rw [show qwn 17 = 1685024357 by decide] at w3
    omega
  · exact Or.inr ⟨by omega, trivial⟩
theorem rul_393 : Rul r_393 := by
  refine ⟨fun _ ρ M hm hB hF hG => ?_, fun gi gv hg => (by cases hg)⟩
  have H := cr_393 M (ρ 0) (ρ 1) (hB _ List.mem_cons_self) (hB _ (List.mem_cons_of_mem _ List.mem_cons_self)) (cvp 140 (x' := ((ρ 0))) (y' := ((ρ 1))) (by show 0 + (1 * ρ 0 + 0) = _; omega) (by show 0 + (1 * ρ 1 + 0) = _; omega) (hm _ List.mem_cons_self)) (by have h := hF _ List.mem_cons_self; have h : 0 ≤ (-1685024358) + (1 * ρ 1 + 0) := h; omega) hG
  rcases H with H | H
  · skip
    obtain ⟨f0, -⟩ := H
    exact ⟨_, List.mem_cons_self, ρ, fun _ _ => rfl, okM_n, okB_n, (okF_c (by show 0 ≤ 16 + ((-1) * ρ 0 + 0); omega) okF_n)⟩
  · skip
    obtain ⟨f0, -⟩ := H
    exact ⟨_, (List.mem_cons_of_mem _ List.mem_cons_self), ρ, fun _ _ => rfl, okM_n, okB_n, (okF_c (by show 0 ≤ (-18) + (1 * ρ 0 + 0); omega) okF_n)⟩
-- wkq17
theorem cr_394 (M : pM) (s0 s1 : Int) (b0 : 0 ≤ s0 ∧ s0 ≤ 23) (b1 : 0 ≤ s1 ∧ s1 ≤ 9223372036854775807) (m0 : HP 140 (s0) (s1) M) (f0 : 0 ≤ ((-1) * s1 + 1685024357)) (f1 : 0 ≤ (s1 - 1685024357)) (hG : gI M) : (0 ≤ ((-1) * s0 + 17) ∧ 0 ≤ (s0 - 17) ∧ True) := by
  obtain ⟨k, w1, w2, w3⟩ := Eq.mp hp_140 m0
  have hk : k = 17 := (by decide : ∀ k, k < 24 → qwn k = 1685024357 → k = 17) k w1 (by omega)
  exact ⟨by omega, by omega, trivial⟩
theorem rul_394 : Rul r_394 := by
  refine ⟨fun _ ρ M hm hB hF hG => ?_, fun gi gv hg => (by cases hg)⟩
  have H := cr_394 M (ρ 0) (ρ 1) (hB _ List.mem_cons_self) (hB _ (List.mem_cons_of_mem _ List.mem_cons_self)) (cvp 140 (x' := ((ρ 0))) (y' := ((ρ 1))) (by show 0 + (1 * ρ 0 + 0) = _; omega) (by show 0 + (1 * ρ 1 + 0) = _; omega) (hm _ List.mem_cons_self)) (by have h := hF _ List.mem_cons_self; have h : 0 ≤ 1685024357 + ((-1) * ρ 1 + 0) := h; omega) (by have h := hF _ (List.mem_cons_of_mem _ List.mem_cons_self); have h : 0 ≤ (-1685024357) + (1 * ρ 1 + 0) := h; omega) hG
  obtain ⟨f0, f1, -⟩ := H
  exact ⟨_, List.mem_cons_self, ρ, fun _ _ => rfl, okM_n, okB_n, (okF_c (by show 0 ≤ 17 + ((-1) * ρ 0 + 0); omega) (okF_c (by show 0 ≤ (-17) + (1 * ρ 0 + 0); omega) okF_n))⟩
-- wkn18_0
theorem cr_395 (M : pM) (s0 s1 : Int) (b0 : 0 ≤ s0 ∧ s0 ≤ 23) (b1 : 0 ≤ s1 ∧ s1 ≤ 9223372036854775807) (m0 : HP 140 (s0) (s1) M) (f0 : 0 ≤ ((-1) * s1 + 1818584946)) (hG : gI M) : (0 ≤ ((-1) * s0 + 17) ∧ True) ∨ (0 ≤ (s0 - 19) ∧ True) := by
  obtain ⟨k, w1, w2, w3⟩ := Eq.mp hp_140 m0
  have hk : k < 18 ∨ k = 18 ∨ 18 < k := by omega
  rcases hk with e | e | e
  · exact Or.inl ⟨by omega, trivial⟩
  · subst e
    rw [show qwn 18 = 1818584947 by decide] at w3
    omega
  · exact Or.inr ⟨by omega, trivial⟩
theorem rul_395 : Rul r_395 := by
  refine ⟨fun _ ρ M hm hB hF hG => ?_, fun gi gv hg => (by cases hg)⟩
  have H := cr_395 M (ρ 0) (ρ 1) (hB _ List.mem_cons_self) (hB _ (List.mem_cons_of_mem _ List.mem_cons_self)) (cvp 140 (x' := ((ρ 0))) (y' := ((ρ 1))) (by show 0 + (1 * ρ 0 + 0) = _; omega) (by show 0 + (1 * ρ 1 + 0) = _; omega) (hm _ List.mem_cons_self)) (by have h := hF _ List.mem_cons_self; have h : 0 ≤ 1818584946 + ((-1) * ρ 1 + 0) := h; omega) hG
  rcases H with H | H
  · skip
    obtain ⟨f0, -⟩ := H
    exact ⟨_, List.mem_cons_self, ρ, fun _ _ => rfl, okM_n, okB_n, (okF_c (by show 0 ≤ 17 + ((-1) * ρ 0 + 0); omega) okF_n)⟩
  · skip
    obtain ⟨f0, -⟩ := H
    exact ⟨_, (List.mem_cons_of_mem _ List.mem_cons_self), ρ, fun _ _ => rfl, okM_n, okB_n, (okF_c (by show 0 ≤ (-19) + (1 * ρ 0 + 0); omega) okF_n)⟩
-- wkn18_1
theorem cr_396 (M : pM) (s0 s1 : Int) (b0 : 0 ≤ s0 ∧ s0 ≤ 23) (b1 : 0 ≤ s1 ∧ s1 ≤ 9223372036854775807) (m0 : HP 140 (s0) (s1) M) (f0 : 0 ≤ (s1 - 1818584948)) (hG : gI M) : (0 ≤ ((-1) * s0 + 17) ∧ True) ∨ (0 ≤ (s0 - 19) ∧ True) := by
  obtain ⟨k, w1, w2, w3⟩ := Eq.mp hp_140 m0
  have hk : k < 18 ∨ k = 18 ∨ 18 < k := by omega
  rcases hk with e | e | e
  · exact Or.inl ⟨by omega, trivial⟩
  · subst e
    rw [show qwn 18 = 1818584947 by decide] at w3
    omega
  · exact Or.inr ⟨by omega, trivial⟩
theorem rul_396 : Rul r_396 := by
  refine ⟨fun _ ρ M hm hB hF hG => ?_, fun gi gv hg => (by cases hg)⟩
  have H := cr_396 M (ρ 0) (ρ 1) (hB _ List.mem_cons_self) (hB _ (List.mem_cons_of_mem _ List.mem_cons_self)) (cvp 140 (x' := ((ρ 0))) (y' := ((ρ 1))) (by show 0 + (1 * ρ 0 + 0) = _; omega) (by show 0 + (1 * ρ 1 + 0) = _; omega) (hm _ List.mem_cons_self)) (by have h := hF _ List.mem_cons_self; have h : 0 ≤ (-1818584948) + (1 * ρ 1 + 0) := h; omega) hG
  rcases H with H | H
  · skip
    obtain ⟨f0, -⟩ := H
    exact ⟨_, List.mem_cons_self, ρ, fun _ _ => rfl, okM_n, okB_n, (okF_c (by show 0 ≤ 17 + ((-1) * ρ 0 + 0); omega) okF_n)⟩
  · skip
    obtain ⟨f0, -⟩ := H
    exact ⟨_, (List.mem_cons_of_mem _ List.mem_cons_self), ρ, fun _ _ => rfl, okM_n, okB_n, (okF_c (by show 0 ≤ (-19) + (1 * ρ 0 + 0); omega) okF_n)⟩
-- wkq18
theorem cr_397 (M : pM) (s0 s1 : Int) (b0 : 0 ≤ s0 ∧ s0 ≤ 23) (b1 : 0 ≤ s1 ∧ s1 ≤ 9223372036854775807) (m0 : HP 140 (s0) (s1) M) (f0 : 0 ≤ ((-1) * s1 + 1818584947)) (f1 : 0 ≤ (s1 - 1818584947)) (hG : gI M) : (0 ≤ ((-1) * s0 + 18) ∧ 0 ≤ (s0 - 18) ∧ True) := by
  obtain ⟨k, w1, w2, w3⟩ := Eq.mp hp_140 m0
  have hk : k = 18 := (by decide : ∀ k, k < 24 → qwn k = 1818584947 → k = 18) k w1 (by omega)
  exact ⟨by omega, by omega, trivial⟩
theorem rul_397 : Rul r_397 := by
  refine ⟨fun _ ρ M hm hB hF hG => ?_, fun gi gv hg => (by cases hg)⟩
  have H := cr_397 M (ρ 0) (ρ 1) (hB _ List.mem_cons_self) (hB _ (List.mem_cons_of_mem _ List.mem_cons_self)) (cvp 140 (x' := ((ρ 0))) (y' := ((ρ 1))) (by show 0 + (1 * ρ 0 + 0) = _; omega) (by show 0 + (1 * ρ 1 + 0) = _; omega) (hm _ List.mem_cons_self)) (by have h := hF _ List.mem_cons_self; have h : 0 ≤ 1818584947 + ((-1) * ρ 1 + 0) := h; omega) (by have h := hF _ (List.mem_cons_of_mem _ List.mem_cons_self); have h : 0 ≤ (-1818584947) + (1 * ρ 1 + 0) := h; omega) hG
  obtain ⟨f0, f1, -⟩ := H
  exact ⟨_, List.mem_cons_self, ρ, fun _ _ => rfl, okM_n, okB_n, (okF_c (by show 0 ≤ 18 + ((-1) * ρ 0 + 0); omega) (okF_c (by show 0 ≤ (-18) + (1 * ρ 0 + 0); omega) okF_n))⟩
-- wkn19_0
theorem cr_398 (M : pM) (s0 s1 : Int) (b0 : 0 ≤ s0 ∧ s0 ≤ 23) (b1 : 0 ≤ s1 ∧ s1 ≤ 9223372036854775807) (m0 : HP 140 (s0) (s1) M) (f0 : 0 ≤ ((-1) * s1 + 1953066340)) (hG : gI M) : (0 ≤ ((-1) * s0 + 18) ∧ True) ∨ (0 ≤ (s0 - 20) ∧ True) := by
  obtain ⟨k, w1, w2, w3⟩ := Eq.mp hp_140 m0
  have hk : k < 19 ∨ k = 19 ∨ 19 < k := by omega
  rcases hk with e | e | e
  · exact Or.inl ⟨by omega, trivial⟩
  · subst e
    rw [show qwn 19 = 1953066341 by decide] at w3
    omega
  · exact Or.inr ⟨by omega, trivial⟩
theorem rul_398 : Rul r_398 := by
  refine ⟨fun _ ρ M hm hB hF hG => ?_, fun gi gv hg => (by cases hg)⟩
  have H := cr_398 M (ρ 0) (ρ 1) (hB _ List.mem_cons_self) (hB _ (List.mem_cons_of_mem _ List.mem_cons_self)) (cvp 140 (x' := ((ρ 0))) (y' := ((ρ 1))) (by show 0 + (1 * ρ 0 + 0) = _; omega) (by show 0 + (1 * ρ 1 + 0) = _; omega) (hm _ List.mem_cons_self)) (by have h := hF _ List.mem_cons_self; have h : 0 ≤ 1953066340 + ((-1) * ρ 1 + 0) := h; omega) hG
  rcases H with H | H
  · skip
    obtain ⟨f0, -⟩ := H
    exact ⟨_, List.mem_cons_self, ρ, fun _ _ => rfl, okM_n, okB_n, (okF_c (by show 0 ≤ 18 + ((-1) * ρ 0 + 0); omega) okF_n)⟩
  · skip
    obtain ⟨f0, -⟩ := H
    exact ⟨_, (List.mem_cons_of_mem _ List.mem_cons_self), ρ, fun _ _ => rfl, okM_n, okB_n, (okF_c (by show 0 ≤ (-20) + (1 * ρ 0 + 0); omega) okF_n)⟩
-- wkn19_1
theorem cr_399 (M : pM) (s0 s1 : Int) (b0 : 0 ≤ s0 ∧ s0 ≤ 23) (b1 : 0 ≤ s1 ∧ s1 ≤ 9223372036854775807) (m0 : HP 140 (s0) (s1) M) (f0 : 0 ≤ (s1 - 1953066342)) (hG : gI M) : (0 ≤ ((-1) * s0 + 18) ∧ True) ∨ (0 ≤ (s0 - 20) ∧ True) := by
  obtain ⟨k, w1, w2, w3⟩ := Eq.mp hp_140 m0
  have hk : k < 19 ∨ k = 19 ∨ 19 < k := by omega
  rcases hk with e | e | e
  · exact Or.inl ⟨by omega, trivial⟩
  · subst e
    rw [show qwn 19 = 1953066341 by decide] at w3
    omega
  · exact Or.inr ⟨by omega, trivial⟩
theorem rul_399 : Rul r_399 := by
  refine ⟨fun _ ρ M hm hB hF hG => ?_, fun gi gv hg => (by cases hg)⟩
  have H := cr_399 M (ρ 0) (ρ 1) (hB _ List.mem_cons_self) (hB _ (List.mem_cons_of_mem _ List.mem_cons_self)) (cvp 140 (x' := ((ρ 0))) (y' := ((ρ 1))) (by show 0 + (1 * ρ 0 + 0) = _; omega) (by show 0 + (1 * ρ 1 + 0) = _; omega) (hm _ List.mem_cons_self)) (by have h := hF _ List.mem_cons_self; have h : 0 ≤ (-1953066342) + (1 * ρ 1 + 0) := h; omega) hG
  rcases H with H | H
  · skip
    obtain ⟨f0, -⟩ := H
    exact ⟨_, List.mem_cons_self, ρ, fun _ _ => rfl, okM_n, okB_n, (okF_c (by show 0 ≤ 18 + ((-1) * ρ 0 + 0); omega) okF_n)⟩
  · skip
    obtain ⟨f0, -⟩ := H
    exact ⟨_, (List.mem_cons_of_mem _ List.mem_cons_self), ρ, fun _ _ => rfl, okM_n, okB_n, (okF_c (by show 0 ≤ (-20) + (1 * ρ 0 + 0); omega) okF_n)⟩
