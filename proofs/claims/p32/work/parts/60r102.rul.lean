-- fk66
theorem cr_200 (M : pM) (s0 s1 s2 s3 s4 : Int) (b0 : 0 ≤ s0 ∧ s0 ≤ 1900) (b1 : 0 ≤ s1 ∧ s1 ≤ 950) (b2 : 0 ≤ s2 ∧ s2 ≤ 1900) (b3 : 0 ≤ s3 ∧ s3 ≤ 1900) (b4 : 256 ≤ s4 ∧ s4 ≤ 600000) (m0 : HP 53 (4096 * s0 + s1) (256 * s2 + 66) M) (m1 : HP 47 (s2) (s4) M) (m2 : HP 45 (s2) (s3) M) (f0 : 0 ≤ ((-1) * s4 + 393215)) (hG : gI M) : (HP 66 (s3) (2 : Int) M ∧ True) := by
  refine ⟨r_fl (K := 4) (j := 1) m0 m1 m2 ⟨by omega, by omega, by decide⟩ (fun s hs hE e => ?_), trivial⟩
  show qcN 0 7 none (tK (tm M) (qps (tm M) s.1 2)) = some 2
  rw [e]
  exact qcN_2 (by omega) (by omega)
theorem rul_200 : Rul r_200 := by
  refine ⟨fun _ ρ M hm hB hF hG => ?_, fun gi gv hg => (by cases hg)⟩
  have H := cr_200 M (ρ 0) (ρ 1) (ρ 2) (ρ 3) (ρ 4) (hB _ List.mem_cons_self) (hB _ (List.mem_cons_of_mem _ List.mem_cons_self)) (hB _ (List.mem_cons_of_mem _ (List.mem_cons_of_mem _ List.mem_cons_self))) (hB _ (List.mem_cons_of_mem _ (List.mem_cons_of_mem _ (List.mem_cons_of_mem _ List.mem_cons_self)))) (hB _ (List.mem_cons_of_mem _ (List.mem_cons_of_mem _ (List.mem_cons_of_mem _ (List.mem_cons_of_mem _ List.mem_cons_self))))) (cvp 53 (x' := (4096 * (ρ 0) + (ρ 1))) (y' := (256 * (ρ 2) + 66)) (by show 0 + (4096 * ρ 0 + (1 * ρ 1 + 0)) = _; omega) (by show 66 + (256 * ρ 2 + 0) = _; omega) (hm _ List.mem_cons_self)) (cvp 47 (x' := ((ρ 2))) (y' := ((ρ 4))) (by show 0 + (1 * ρ 2 + 0) = _; omega) (by show 0 + (1 * ρ 4 + 0) = _; omega) (hm _ (List.mem_cons_of_mem _ List.mem_cons_self))) (cvp 45 (x' := ((ρ 2))) (y' := ((ρ 3))) (by show 0 + (1 * ρ 2 + 0) = _; omega) (by show 0 + (1 * ρ 3 + 0) = _; omega) (hm _ (List.mem_cons_of_mem _ (List.mem_cons_of_mem _ List.mem_cons_self)))) (by have h := hF _ List.mem_cons_self; have h : 0 ≤ 393215 + ((-1) * ρ 4 + 0) := h; omega) hG
  obtain ⟨k0, -⟩ := H
  exact ⟨_, List.mem_cons_self, ρ, fun _ _ => rfl, (okM_c (pvp 66 (by show 0 + (1 * ρ 3 + 0) = _; omega) (by show 2 + 0 = _; omega) k0) okM_n), okB_n, okF_n⟩
-- fl66
theorem cr_201 (M : pM) (s0 s1 s2 s3 s4 : Int) (b0 : 0 ≤ s0 ∧ s0 ≤ 1900) (b1 : 0 ≤ s1 ∧ s1 ≤ 950) (b2 : 0 ≤ s2 ∧ s2 ≤ 1900) (b3 : 0 ≤ s3 ∧ s3 ≤ 1900) (b4 : 256 ≤ s4 ∧ s4 ≤ 600000) (m0 : HP 53 (4096 * s0 + s1) (256 * s2 + 66) M) (m1 : HP 47 (s2) (s4) M) (m2 : HP 45 (s2) (s3) M) (f0 : 0 ≤ (s4 - 403216)) (hG : gI M) : (HP 66 (s3) (2 : Int) M ∧ True) := by
  refine ⟨r_fl (K := 4) (j := 1) m0 m1 m2 ⟨by omega, by omega, by decide⟩ (fun s hs hE e => ?_), trivial⟩
  show qcN 0 7 none (tK (tm M) (qps (tm M) s.1 2)) = some 2
  rw [e]
  exact qcN_2 (by omega) (by omega)
theorem rul_201 : Rul r_201 := by
  refine ⟨fun _ ρ M hm hB hF hG => ?_, fun gi gv hg => (by cases hg)⟩
  have H := cr_201 M (ρ 0) (ρ 1) (ρ 2) (ρ 3) (ρ 4) (hB _ List.mem_cons_self) (hB _ (List.mem_cons_of_mem _ List.mem_cons_self)) (hB _ (List.mem_cons_of_mem _ (List.mem_cons_of_mem _ List.mem_cons_self))) (hB _ (List.mem_cons_of_mem _ (List.mem_cons_of_mem _ (List.mem_cons_of_mem _ List.mem_cons_self)))) (hB _ (List.mem_cons_of_mem _ (List.mem_cons_of_mem _ (List.mem_cons_of_mem _ (List.mem_cons_of_mem _ List.mem_cons_self))))) (cvp 53 (x' := (4096 * (ρ 0) + (ρ 1))) (y' := (256 * (ρ 2) + 66)) (by show 0 + (4096 * ρ 0 + (1 * ρ 1 + 0)) = _; omega) (by show 66 + (256 * ρ 2 + 0) = _; omega) (hm _ List.mem_cons_self)) (cvp 47 (x' := ((ρ 2))) (y' := ((ρ 4))) (by show 0 + (1 * ρ 2 + 0) = _; omega) (by show 0 + (1 * ρ 4 + 0) = _; omega) (hm _ (List.mem_cons_of_mem _ List.mem_cons_self))) (cvp 45 (x' := ((ρ 2))) (y' := ((ρ 3))) (by show 0 + (1 * ρ 2 + 0) = _; omega) (by show 0 + (1 * ρ 3 + 0) = _; omega) (hm _ (List.mem_cons_of_mem _ (List.mem_cons_of_mem _ List.mem_cons_self)))) (by have h := hF _ List.mem_cons_self; have h : 0 ≤ (-403216) + (1 * ρ 4 + 0) := h; omega) hG
  obtain ⟨k0, -⟩ := H
  exact ⟨_, List.mem_cons_self, ρ, fun _ _ => rfl, (okM_c (pvp 66 (by show 0 + (1 * ρ 3 + 0) = _; omega) (by show 2 + 0 = _; omega) k0) okM_n), okB_n, okF_n⟩
-- fn66
theorem cr_202 (M : pM) (s0 s1 s2 s3 s4 : Int) (b0 : 0 ≤ s0 ∧ s0 ≤ 1900) (b1 : 0 ≤ s1 ∧ s1 ≤ 950) (b2 : 0 ≤ s2 ∧ s2 ≤ 1900) (b3 : 0 ≤ s3 ∧ s3 ≤ 1900) (b4 : 0 ≤ s4 ∧ s4 ≤ 9999) (m0 : HP 53 (4096 * s0 + s1) (256 * s2 + 66) M) (m1 : HP 47 (s2) (s4 + 393216) M) (m2 : HP 45 (s2) (s3) M) (f0 : 0 ≤ (s4 - 8)) (hG : gI M) : (HP 66 (s3) (4 : Int) M ∧ True) := by
  refine ⟨r_fl (K := 4) (j := 1) m0 m1 m2 ⟨by omega, by omega, by decide⟩ (fun s hs hE e => ?_), trivial⟩
  show qcN 0 7 none (tK (tm M) (qps (tm M) s.1 2)) = some 4
  rw [e]
  exact qcN_4 (by omega) (Or.inr (by omega))
theorem rul_202 : Rul r_202 := by
  refine ⟨fun _ ρ M hm hB hF hG => ?_, fun gi gv hg => (by cases hg)⟩
  have H := cr_202 M (ρ 0) (ρ 1) (ρ 2) (ρ 3) (ρ 4) (hB _ List.mem_cons_self) (hB _ (List.mem_cons_of_mem _ List.mem_cons_self)) (hB _ (List.mem_cons_of_mem _ (List.mem_cons_of_mem _ List.mem_cons_self))) (hB _ (List.mem_cons_of_mem _ (List.mem_cons_of_mem _ (List.mem_cons_of_mem _ List.mem_cons_self)))) (hB _ (List.mem_cons_of_mem _ (List.mem_cons_of_mem _ (List.mem_cons_of_mem _ (List.mem_cons_of_mem _ List.mem_cons_self))))) (cvp 53 (x' := (4096 * (ρ 0) + (ρ 1))) (y' := (256 * (ρ 2) + 66)) (by show 0 + (4096 * ρ 0 + (1 * ρ 1 + 0)) = _; omega) (by show 66 + (256 * ρ 2 + 0) = _; omega) (hm _ List.mem_cons_self)) (cvp 47 (x' := ((ρ 2))) (y' := ((ρ 4) + 393216)) (by show 0 + (1 * ρ 2 + 0) = _; omega) (by show 393216 + (1 * ρ 4 + 0) = _; omega) (hm _ (List.mem_cons_of_mem _ List.mem_cons_self))) (cvp 45 (x' := ((ρ 2))) (y' := ((ρ 3))) (by show 0 + (1 * ρ 2 + 0) = _; omega) (by show 0 + (1 * ρ 3 + 0) = _; omega) (hm _ (List.mem_cons_of_mem _ (List.mem_cons_of_mem _ List.mem_cons_self)))) (by have h := hF _ List.mem_cons_self; have h : 0 ≤ (-8) + (1 * ρ 4 + 0) := h; omega) hG
  obtain ⟨k0, -⟩ := H
  exact ⟨_, List.mem_cons_self, ρ, fun _ _ => rfl, (okM_c (pvp 66 (by show 0 + (1 * ρ 3 + 0) = _; omega) (by show 4 + 0 = _; omega) k0) okM_n), okB_n, okF_n⟩
-- ex66
theorem cr_203 (M : pM) (s0 s1 s2 s3 s4 : Int) (b0 : 0 ≤ s0 ∧ s0 ≤ 1900) (b1 : 0 ≤ s1 ∧ s1 ≤ 950) (b2 : 0 ≤ s2 ∧ s2 ≤ 1900) (b3 : 0 ≤ s3 ∧ s3 ≤ 1900) (b4 : 0 ≤ s4 ∧ s4 ≤ 9999) (m0 : HP 53 (4096 * s0 + s1) (256 * s2 + 66) M) (m1 : HP 47 (s2) (s4 + 393216) M) (m2 : HP 46 (s2) (s3) M) (f0 : 0 ≤ (s4)) (f1 : 0 ≤ ((-1) * s4 + 7)) (hG : gI M) : (HP 53 (4096 * s0 + s1) (256 * s3 + 67) M ∧ HP 79 (16 * s0 + 2) (s4) M ∧ True) := by
  refine ⟨?_, ?_, trivial⟩
  · exact r_ex (K := 4) (j := 1) m0 m1 m2 ⟨by omega, by omega, by decide⟩ (by omega) (by decide) (fun s hs hE e => by
        show qcN 0 7 none (tK (tm M) (qps (tm M) s.1 2)) = none
        rw [e]
        exact qcN_x (by omega) (by omega))
  · exact r_va (P := s0) (l := s1) (K := 4) (j := 1) m0 m1 ⟨by omega, by omega, by omega⟩ ⟨by omega, by omega, by decide⟩ (by omega) (by omega)
theorem rul_203 : Rul r_203 := by
  refine ⟨fun _ ρ M hm hB hF hG => ?_, fun gi gv hg => (by cases hg)⟩
  have H := cr_203 M (ρ 0) (ρ 1) (ρ 2) (ρ 3) (ρ 4) (hB _ List.mem_cons_self) (hB _ (List.mem_cons_of_mem _ List.mem_cons_self)) (hB _ (List.mem_cons_of_mem _ (List.mem_cons_of_mem _ List.mem_cons_self))) (hB _ (List.mem_cons_of_mem _ (List.mem_cons_of_mem _ (List.mem_cons_of_mem _ List.mem_cons_self)))) (hB _ (List.mem_cons_of_mem _ (List.mem_cons_of_mem _ (List.mem_cons_of_mem _ (List.mem_cons_of_mem _ List.mem_cons_self))))) (cvp 53 (x' := (4096 * (ρ 0) + (ρ 1))) (y' := (256 * (ρ 2) + 66)) (by show 0 + (4096 * ρ 0 + (1 * ρ 1 + 0)) = _; omega) (by show 66 + (256 * ρ 2 + 0) = _; omega) (hm _ List.mem_cons_self)) (cvp 47 (x' := ((ρ 2))) (y' := ((ρ 4) + 393216)) (by show 0 + (1 * ρ 2 + 0) = _; omega) (by show 393216 + (1 * ρ 4 + 0) = _; omega) (hm _ (List.mem_cons_of_mem _ List.mem_cons_self))) (cvp 46 (x' := ((ρ 2))) (y' := ((ρ 3))) (by show 0 + (1 * ρ 2 + 0) = _; omega) (by show 0 + (1 * ρ 3 + 0) = _; omega) (hm _ (List.mem_cons_of_mem _ (List.mem_cons_of_mem _ List.mem_cons_self)))) (by have h := hF _ List.mem_cons_self; have h : 0 ≤ 0 + (1 * ρ 4 + 0) := h; omega) (by have h := hF _ (List.mem_cons_of_mem _ List.mem_cons_self); have h : 0 ≤ 7 + ((-1) * ρ 4 + 0) := h; omega) hG
  obtain ⟨k0, k1, -⟩ := H
  exact ⟨_, List.mem_cons_self, ρ, fun _ _ => rfl, (okM_c (pvp 53 (by show 0 + (4096 * ρ 0 + (1 * ρ 1 + 0)) = _; omega) (by show 67 + (256 * ρ 3 + 0) = _; omega) k0) (okM_c (pvp 79 (by show 2 + (16 * ρ 0 + 0) = _; omega) (by show 0 + (1 * ρ 4 + 0) = _; omega) k1) okM_n)), okB_n, okF_n⟩
-- ex67
theorem cr_204 (M : pM) (s0 s1 s2 s3 : Int) (b0 : 0 ≤ s0 ∧ s0 ≤ 1900) (b1 : 0 ≤ s1 ∧ s1 ≤ 950) (b2 : 0 ≤ s2 ∧ s2 ≤ 1900) (b3 : 0 ≤ s3 ∧ s3 ≤ 1900) (m0 : HP 53 (4096 * s0 + s1) (256 * s2 + 67) M) (m1 : HP 47 (s2) (262149 : Int) M) (m2 : HP 46 (s2) (s3) M) (hG : gI M) : (HP 53 (4096 * s0 + s1) (256 * s3 + 68) M ∧ True) := by
  refine ⟨?_, trivial⟩
  · exact r_ex (K := 4) (j := 2) m0 m1 m2 ⟨by omega, by omega, by decide⟩ (by omega) (by decide) (fun s hs hE e => by
        show qcK 262149 (tK (tm M) (qps (tm M) s.1 3)) = none
        rw [e]
        exact qcK_x (by omega) (by omega))
theorem rul_204 : Rul r_204 := by
  refine ⟨fun _ ρ M hm hB hF hG => ?_, fun gi gv hg => (by cases hg)⟩
  have H := cr_204 M (ρ 0) (ρ 1) (ρ 2) (ρ 3) (hB _ List.mem_cons_self) (hB _ (List.mem_cons_of_mem _ List.mem_cons_self)) (hB _ (List.mem_cons_of_mem _ (List.mem_cons_of_mem _ List.mem_cons_self))) (hB _ (List.mem_cons_of_mem _ (List.mem_cons_of_mem _ (List.mem_cons_of_mem _ List.mem_cons_self)))) (cvp 53 (x' := (4096 * (ρ 0) + (ρ 1))) (y' := (256 * (ρ 2) + 67)) (by show 0 + (4096 * ρ 0 + (1 * ρ 1 + 0)) = _; omega) (by show 67 + (256 * ρ 2 + 0) = _; omega) (hm _ List.mem_cons_self)) (cvp 47 (x' := ((ρ 2))) (y' := (262149 : Int)) (by show 0 + (1 * ρ 2 + 0) = _; omega) (by show 262149 + 0 = _; omega) (hm _ (List.mem_cons_of_mem _ List.mem_cons_self))) (cvp 46 (x' := ((ρ 2))) (y' := ((ρ 3))) (by show 0 + (1 * ρ 2 + 0) = _; omega) (by show 0 + (1 * ρ 3 + 0) = _; omega) (hm _ (List.mem_cons_of_mem _ (List.mem_cons_of_mem _ List.mem_cons_self)))) hG
  obtain ⟨k0, -⟩ := H
  exact ⟨_, List.mem_cons_self, ρ, fun _ _ => rfl, (okM_c (pvp 53 (by show 0 + (4096 * ρ 0 + (1 * ρ 1 + 0)) = _; omega) (by show 68 + (256 * ρ 3 + 0) = _; omega) k0) okM_n), okB_n, okF_n⟩
-- fk67
theorem cr_205 (M : pM) (s0 s1 s2 s3 s4 : Int) (b0 : 0 ≤ s0 ∧ s0 ≤ 1900) (b1 : 0 ≤ s1 ∧ s1 ≤ 950) (b2 : 0 ≤ s2 ∧ s2 ≤ 1900) (b3 : 0 ≤ s3 ∧ s3 ≤ 1900) (b4 : 256 ≤ s4 ∧ s4 ≤ 600000) (m0 : HP 53 (4096 * s0 + s1) (256 * s2 + 67) M) (m1 : HP 47 (s2) (s4) M) (m2 : HP 45 (s2) (s3) M) (f0 : 0 ≤ ((-1) * s4 + 262148)) (hG : gI M) : (HP 66 (s3) (2 : Int) M ∧ True) := by
  refine ⟨r_fl (K := 4) (j := 2) m0 m1 m2 ⟨by omega, by omega, by decide⟩ (fun s hs hE e => ?_), trivial⟩
  show qcK 262149 (tK (tm M) (qps (tm M) s.1 3)) = some 2
  rw [e]
  exact qcK_2 (by omega) (by omega)
theorem rul_205 : Rul r_205 := by
  refine ⟨fun _ ρ M hm hB hF hG => ?_, fun gi gv hg => (by cases hg)⟩
  have H := cr_205 M (ρ 0) (ρ 1) (ρ 2) (ρ 3) (ρ 4) (hB _ List.mem_cons_self) (hB _ (List.mem_cons_of_mem _ List.mem_cons_self)) (hB _ (List.mem_cons_of_mem _ (List.mem_cons_of_mem _ List.mem_cons_self))) (hB _ (List.mem_cons_of_mem _ (List.mem_cons_of_mem _ (List.mem_cons_of_mem _ List.mem_cons_self)))) (hB _ (List.mem_cons_of_mem _ (List.mem_cons_of_mem _ (List.mem_cons_of_mem _ (List.mem_cons_of_mem _ List.mem_cons_self))))) (cvp 53 (x' := (4096 * (ρ 0) + (ρ 1))) (y' := (256 * (ρ 2) + 67)) (by show 0 + (4096 * ρ 0 + (1 * ρ 1 + 0)) = _; omega) (by show 67 + (256 * ρ 2 + 0) = _; omega) (hm _ List.mem_cons_self)) (cvp 47 (x' := ((ρ 2))) (y' := ((ρ 4))) (by show 0 + (1 * ρ 2 + 0) = _; omega) (by show 0 + (1 * ρ 4 + 0) = _; omega) (hm _ (List.mem_cons_of_mem _ List.mem_cons_self))) (cvp 45 (x' := ((ρ 2))) (y' := ((ρ 3))) (by show 0 + (1 * ρ 2 + 0) = _; omega) (by show 0 + (1 * ρ 3 + 0) = _; omega) (hm _ (List.mem_cons_of_mem _ (List.mem_cons_of_mem _ List.mem_cons_self)))) (by have h := hF _ List.mem_cons_self; have h : 0 ≤ 262148 + ((-1) * ρ 4 + 0) := h; omega) hG
  obtain ⟨k0, -⟩ := H
  exact ⟨_, List.mem_cons_self, ρ, fun _ _ => rfl, (okM_c (pvp 66 (by show 0 + (1 * ρ 3 + 0) = _; omega) (by show 2 + 0 = _; omega) k0) okM_n), okB_n, okF_n⟩
-- fl67
theorem cr_206 (M : pM) (s0 s1 s2 s3 s4 : Int) (b0 : 0 ≤ s0 ∧ s0 ≤ 1900) (b1 : 0 ≤ s1 ∧ s1 ≤ 950) (b2 : 0 ≤ s2 ∧ s2 ≤ 1900) (b3 : 0 ≤ s3 ∧ s3 ≤ 1900) (b4 : 256 ≤ s4 ∧ s4 ≤ 600000) (m0 : HP 53 (4096 * s0 + s1) (256 * s2 + 67) M) (m1 : HP 47 (s2) (s4) M) (m2 : HP 45 (s2) (s3) M) (f0 : 0 ≤ (s4 - 262150)) (hG : gI M) : (HP 66 (s3) (2 : Int) M ∧ True) := by
  refine ⟨r_fl (K := 4) (j := 2) m0 m1 m2 ⟨by omega, by omega, by decide⟩ (fun s hs hE e => ?_), trivial⟩
  show qcK 262149 (tK (tm M) (qps (tm M) s.1 3)) = some 2
  rw [e]
  exact qcK_2 (by omega) (by omega)
theorem rul_206 : Rul r_206 := by
  refine ⟨fun _ ρ M hm hB hF hG => ?_, fun gi gv hg => (by cases hg)⟩
  have H := cr_206 M (ρ 0) (ρ 1) (ρ 2) (ρ 3) (ρ 4) (hB _ List.mem_cons_self) (hB _ (List.mem_cons_of_mem _ List.mem_cons_self)) (hB _ (List.mem_cons_of_mem _ (List.mem_cons_of_mem _ List.mem_cons_self))) (hB _ (List.mem_cons_of_mem _ (List.mem_cons_of_mem _ (List.mem_cons_of_mem _ List.mem_cons_self)))) (hB _ (List.mem_cons_of_mem _ (List.mem_cons_of_mem _ (List.mem_cons_of_mem _ (List.mem_cons_of_mem _ List.mem_cons_self))))) (cvp 53 (x' := (4096 * (ρ 0) + (ρ 1))) (y' := (256 * (ρ 2) + 67)) (by show 0 + (4096 * ρ 0 + (1 * ρ 1 + 0)) = _; omega) (by show 67 + (256 * ρ 2 + 0) = _; omega) (hm _ List.mem_cons_self)) (cvp 47 (x' := ((ρ 2))) (y' := ((ρ 4))) (by show 0 + (1 * ρ 2 + 0) = _; omega) (by show 0 + (1 * ρ 4 + 0) = _; omega) (hm _ (List.mem_cons_of_mem _ List.mem_cons_self))) (cvp 45 (x' := ((ρ 2))) (y' := ((ρ 3))) (by show 0 + (1 * ρ 2 + 0) = _; omega) (by show 0 + (1 * ρ 3 + 0) = _; omega) (hm _ (List.mem_cons_of_mem _ (List.mem_cons_of_mem _ List.mem_cons_self)))) (by have h := hF _ List.mem_cons_self; have h : 0 ≤ (-262150) + (1 * ρ 4 + 0) := h; omega) hG
  obtain ⟨k0, -⟩ := H
  exact ⟨_, List.mem_cons_self, ρ, fun _ _ => rfl, (okM_c (pvp 66 (by show 0 + (1 * ρ 3 + 0) = _; omega) (by show 2 + 0 = _; omega) k0) okM_n), okB_n, okF_n⟩
-- fk68
theorem cr_207 (M : pM) (s0 s1 s2 s3 s4 : Int) (b0 : 0 ≤ s0 ∧ s0 ≤ 1900) (b1 : 0 ≤ s1 ∧ s1 ≤ 950) (b2 : 0 ≤ s2 ∧ s2 ≤ 1900) (b3 : 0 ≤ s3 ∧ s3 ≤ 1900) (b4 : 256 ≤ s4 ∧ s4 ≤ 600000) (m0 : HP 53 (4096 * s0 + s1) (256 * s2 + 68) M) (m1 : HP 47 (s2) (s4) M) (m2 : HP 45 (s2) (s3) M) (f0 : 0 ≤ ((-1) * s4 + 393215)) (hG : gI M) : (HP 66 (s3) (2 : Int) M ∧ True) := by
  refine ⟨r_fl (K := 4) (j := 3) m0 m1 m2 ⟨by omega, by omega, by decide⟩ (fun s hs hE e => ?_), trivial⟩
  show qcN 0 40 none (tK (tm M) (qps (tm M) s.1 4)) = some 2
  rw [e]
  exact qcN_2 (by omega) (by omega)
theorem rul_207 : Rul r_207 := by
  refine ⟨fun _ ρ M hm hB hF hG => ?_, fun gi gv hg => (by cases hg)⟩
  have H := cr_207 M (ρ 0) (ρ 1) (ρ 2) (ρ 3) (ρ 4) (hB _ List.mem_cons_self) (hB _ (List.mem_cons_of_mem _ List.mem_cons_self)) (hB _ (List.mem_cons_of_mem _ (List.mem_cons_of_mem _ List.mem_cons_self))) (hB _ (List.mem_cons_of_mem _ (List.mem_cons_of_mem _ (List.mem_cons_of_mem _ List.mem_cons_self)))) (hB _ (List.mem_cons_of_mem _ (List.mem_cons_of_mem _ (List.mem_cons_of_mem _ (List.mem_cons_of_mem _ List.mem_cons_self))))) (cvp 53 (x' := (4096 * (ρ 0) + (ρ 1))) (y' := (256 * (ρ 2) + 68)) (by show 0 + (4096 * ρ 0 + (1 * ρ 1 + 0)) = _; omega) (by show 68 + (256 * ρ 2 + 0) = _; omega) (hm _ List.mem_cons_self)) (cvp 47 (x' := ((ρ 2))) (y' := ((ρ 4))) (by show 0 + (1 * ρ 2 + 0) = _; omega) (by show 0 + (1 * ρ 4 + 0) = _; omega) (hm _ (List.mem_cons_of_mem _ List.mem_cons_self))) (cvp 45 (x' := ((ρ 2))) (y' := ((ρ 3))) (by show 0 + (1 * ρ 2 + 0) = _; omega) (by show 0 + (1 * ρ 3 + 0) = _; omega) (hm _ (List.mem_cons_of_mem _ (List.mem_cons_of_mem _ List.mem_cons_self)))) (by have h := hF _ List.mem_cons_self; have h : 0 ≤ 393215 + ((-1) * ρ 4 + 0) := h; omega) hG
  obtain ⟨k0, -⟩ := H
  exact ⟨_, List.mem_cons_self, ρ, fun _ _ => rfl, (okM_c (pvp 66 (by show 0 + (1 * ρ 3 + 0) = _; omega) (by show 2 + 0 = _; omega) k0) okM_n), okB_n, okF_n⟩
-- fl68
theorem cr_208 (M : pM) (s0 s1 s2 s3 s4 : Int) (b0 : 0 ≤ s0 ∧ s0 ≤ 1900) (b1 : 0 ≤ s1 ∧ s1 ≤ 950) (b2 : 0 ≤ s2 ∧ s2 ≤ 1900) (b3 : 0 ≤ s3 ∧ s3 ≤ 1900) (b4 : 256 ≤ s4 ∧ s4 ≤ 600000) (m0 : HP 53 (4096 * s0 + s1) (256 * s2 + 68) M) (m1 : HP 47 (s2) (s4) M) (m2 : HP 45 (s2) (s3) M) (f0 : 0 ≤ (s4 - 403216)) (hG : gI M) : (HP 66 (s3) (2 : Int) M ∧ True) := by
  refine ⟨r_fl (K := 4) (j := 3) m0 m1 m2 ⟨by omega, by omega, by decide⟩ (fun s hs hE e => ?_), trivial⟩
  show qcN 0 40 none (tK (tm M) (qps (tm M) s.1 4)) = some 2
  rw [e]
  exact qcN_2 (by omega) (by omega)
theorem rul_208 : Rul r_208 := by
  refine ⟨fun _ ρ M hm hB hF hG => ?_, fun gi gv hg => (by cases hg)⟩
  have H := cr_208 M (ρ 0) (ρ 1) (ρ 2) (ρ 3) (ρ 4) (hB _ List.mem_cons_self) (hB _ (List.mem_cons_of_mem _ List.mem_cons_self)) (hB _ (List.mem_cons_of_mem _ (List.mem_cons_of_mem _ List.mem_cons_self))) (hB _ (List.mem_cons_of_mem _ (List.mem_cons_of_mem _ (List.mem_cons_of_mem _ List.mem_cons_self)))) (hB _ (List.mem_cons_of_mem _ (List.mem_cons_of_mem _ (List.mem_cons_of_mem _ (List.mem_cons_of_mem _ List.mem_cons_self))))) (cvp 53 (x' := (4096 * (ρ 0) + (ρ 1))) (y' := (256 * (ρ 2) + 68)) (by show 0 + (4096 * ρ 0 + (1 * ρ 1 + 0)) = _; omega) (by show 68 + (256 * ρ 2 + 0) = _; omega) (hm _ List.mem_cons_self)) (cvp 47 (x' := ((ρ 2))) (y' := ((ρ 4))) (by show 0 + (1 * ρ 2 + 0) = _; omega) (by show 0 + (1 * ρ 4 + 0) = _; omega) (hm _ (List.mem_cons_of_mem _ List.mem_cons_self))) (cvp 45 (x' := ((ρ 2))) (y' := ((ρ 3))) (by show 0 + (1 * ρ 2 + 0) = _; omega) (by show 0 + (1 * ρ 3 + 0) = _; omega) (hm _ (List.mem_cons_of_mem _ (List.mem_cons_of_mem _ List.mem_cons_self)))) (by have h := hF _ List.mem_cons_self; have h : 0 ≤ (-403216) + (1 * ρ 4 + 0) := h; omega) hG
  obtain ⟨k0, -⟩ := H
  exact ⟨_, List.mem_cons_self, ρ, fun _ _ => rfl, (okM_c (pvp 66 (by show 0 + (1 * ρ 3 + 0) = _; omega) (by show 2 + 0 = _; omega) k0) okM_n), okB_n, okF_n⟩
-- fn68
theorem cr_209 (M : pM) (s0 s1 s2 s3 s4 : Int) (b0 : 0 ≤ s0 ∧ s0 ≤ 1900) (b1 : 0 ≤ s1 ∧ s1 ≤ 950) (b2 : 0 ≤ s2 ∧ s2 ≤ 1900) (b3 : 0 ≤ s3 ∧ s3 ≤ 1900) (b4 : 0 ≤ s4 ∧ s4 ≤ 9999) (m0 : HP 53 (4096 * s0 + s1) (256 * s2 + 68) M) (m1 : HP 47 (s2) (s4 + 393216) M) (m2 : HP 45 (s2) (s3) M) (f0 : 0 ≤ (s4 - 41)) (hG : gI M) : (HP 66 (s3) (4 : Int) M ∧ True) := by
  refine ⟨r_fl (K := 4) (j := 3) m0 m1 m2 ⟨by omega, by omega, by decide⟩ (fun s hs hE e => ?_), trivial⟩
  show qcN 0 40 none (tK (tm M) (qps (tm M) s.1 4)) = some 4
  rw [e]
  exact qcN_4 (by omega) (Or.inr (by omega))
theorem rul_209 : Rul r_209 := by
  refine ⟨fun _ ρ M hm hB hF hG => ?_, fun gi gv hg => (by cases hg)⟩
  have H := cr_209 M (ρ 0) (ρ 1) (ρ 2) (ρ 3) (ρ 4) (hB _ List.mem_cons_self) (hB _ (List.mem_cons_of_mem _ List.mem_cons_self)) (hB _ (List.mem_cons_of_mem _ (List.mem_cons_of_mem _ List.mem_cons_self))) (hB _ (List.mem_cons_of_mem _ (List.mem_cons_of_mem _ (List.mem_cons_of_mem _ List.mem_cons_self)))) (hB _ (List.mem_cons_of_mem _ (List.mem_cons_of_mem _ (List.mem_cons_of_mem _ (List.mem_cons_of_mem _ List.mem_cons_self))))) (cvp 53 (x' := (4096 * (ρ 0) + (ρ 1))) (y' := (256 * (ρ 2) + 68)) (by show 0 + (4096 * ρ 0 + (1 * ρ 1 + 0)) = _; omega) (by show 68 + (256 * ρ 2 + 0) = _; omega) (hm _ List.mem_cons_self)) (cvp 47 (x' := ((ρ 2))) (y' := ((ρ 4) + 393216)) (by show 0 + (1 * ρ 2 + 0) = _; omega) (by show 393216 + (1 * ρ 4 + 0) = _; omega) (hm _ (List.mem_cons_of_mem _ List.mem_cons_self))) (cvp 45 (x' := ((ρ 2))) (y' := ((ρ 3))) (by show 0 + (1 * ρ 2 + 0) = _; omega) (by show 0 + (1 * ρ 3 + 0) = _; omega) (hm _ (List.mem_cons_of_mem _ (List.mem_cons_of_mem _ List.mem_cons_self)))) (by have h := hF _ List.mem_cons_self; have h : 0 ≤ (-41) + (1 * ρ 4 + 0) := h; omega) hG
  obtain ⟨k0, -⟩ := H
  exact ⟨_, List.mem_cons_self, ρ, fun _ _ => rfl, (okM_c (pvp 66 (by show 0 + (1 * ρ 3 + 0) = _; omega) (by show 4 + 0 = _; omega) k0) okM_n), okB_n, okF_n⟩
-- ex68
theorem cr_210 (M : pM) (s0 s1 s2 s3 s4 : Int) (b0 : 0 ≤ s0 ∧ s0 ≤ 1900) (b1 : 0 ≤ s1 ∧ s1 ≤ 950) (b2 : 0 ≤ s2 ∧ s2 ≤ 1900) (b3 : 0 ≤ s3 ∧ s3 ≤ 1900) (b4 : 0 ≤ s4 ∧ s4 ≤ 9999) (m0 : HP 53 (4096 * s0 + s1) (256 * s2 + 68) M) (m1 : HP 47 (s2) (s4 + 393216) M) (m2 : HP 46 (s2) (s3) M) (f0 : 0 ≤ (s4)) (f1 : 0 ≤ ((-1) * s4 + 40)) (hG : gI M) : (HP 53 (4096 * s0 + s1) (256 * s3 + 69) M ∧ HP 79 (16 * s0 + 4) (s4) M ∧ True) := by
  refine ⟨?_, ?_, trivial⟩
  · exact r_ex (K := 4) (j := 3) m0 m1 m2 ⟨by omega, by omega, by decide⟩ (by omega) (by decide) (fun s hs hE e => by
        show qcN 0 40 none (tK (tm M) (qps (tm M) s.1 4)) = none
        rw [e]
        exact qcN_x (by omega) (by omega))
  · exact r_va (P := s0) (l := s1) (K := 4) (j := 3) m0 m1 ⟨by omega, by omega, by omega⟩ ⟨by omega, by omega, by decide⟩ (by omega) (by omega)
theorem rul_210 : Rul r_210 := by
  refine ⟨fun _ ρ M hm hB hF hG => ?_, fun gi gv hg => (by cases hg)⟩
  have H := cr_210 M (ρ 0) (ρ 1) (ρ 2) (ρ 3) (ρ 4) (hB _ List.mem_cons_self) (hB _ (List.mem_cons_of_mem _ List.mem_cons_self)) (hB _ (List.mem_cons_of_mem _ (List.mem_cons_of_mem _ List.mem_cons_self))) (hB _ (List.mem_cons_of_mem _ (List.mem_cons_of_mem _ (List.mem_cons_of_mem _ List.mem_cons_self)))) (hB _ (List.mem_cons_of_mem _ (List.mem_cons_of_mem _ (List.mem_cons_of_mem _ (List.mem_cons_of_mem _ List.mem_cons_self))))) (cvp 53 (x' := (4096 * (ρ 0) + (ρ 1))) (y' := (256 * (ρ 2) + 68)) (by show 0 + (4096 * ρ 0 + (1 * ρ 1 + 0)) = _; omega) (by show 68 + (256 * ρ 2 + 0) = _; omega) (hm _ List.mem_cons_self)) (cvp 47 (x' := ((ρ 2))) (y' := ((ρ 4) + 393216)) (by show 0 + (1 * ρ 2 + 0) = _; omega) (by show 393216 + (1 * ρ 4 + 0) = _; omega) (hm _ (List.mem_cons_of_mem _ List.mem_cons_self))) (cvp 46 (x' := ((ρ 2))) (y' := ((ρ 3))) (by show 0 + (1 * ρ 2 + 0) = _; omega) (by show 0 + (1 * ρ 3 + 0) = _; omega) (hm _ (List.mem_cons_of_mem _ (List.mem_cons_of_mem _ List.mem_cons_self)))) (by have h := hF _ List.mem_cons_self; have h : 0 ≤ 0 + (1 * ρ 4 + 0) := h; omega) (by have h := hF _ (List.mem_cons_of_mem _ List.mem_cons_self); have h : 0 ≤ 40 + ((-1) * ρ 4 + 0) := h; omega) hG
  obtain ⟨k0, k1, -⟩ := H
  exact ⟨_, List.mem_cons_self, ρ, fun _ _ => rfl, (okM_c (pvp 53 (by show 0 + (4096 * ρ 0 + (1 * ρ 1 + 0)) = _; omega) (by show 69 + (256 * ρ 3 + 0) = _; omega) k0) (okM_c (pvp 79 (by show 4 + (16 * ρ 0 + 0) = _; omega) (by show 0 + (1 * ρ 4 + 0) = _; omega) k1) okM_n)), okB_n, okF_n⟩
-- ex69
theorem cr_211 (M : pM) (s0 s1 s2 s3 : Int) (b0 : 0 ≤ s0 ∧ s0 ≤ 1900) (b1 : 0 ≤ s1 ∧ s1 ≤ 950) (b2 : 0 ≤ s2 ∧ s2 ≤ 1900) (b3 : 0 ≤ s3 ∧ s3 ≤ 1900) (m0 : HP 53 (4096 * s0 + s1) (256 * s2 + 69) M) (m1 : HP 47 (s2) (262150 : Int) M) (m2 : HP 46 (s2) (s3) M) (hG : gI M) : (HP 53 (4096 * s0 + s1) (256 * s3 + 70) M ∧ True) := by
  refine ⟨?_, trivial⟩
  · exact r_ex (K := 4) (j := 4) m0 m1 m2 ⟨by omega, by omega, by decide⟩ (by omega) (by decide) (fun s hs hE e => by
        show qcK 262150 (tK (tm M) (qps (tm M) s.1 5)) = none
        rw [e]
        exact qcK_x (by omega) (by omega))
theorem rul_211 : Rul r_211 := by
  refine ⟨fun _ ρ M hm hB hF hG => ?_, fun gi gv hg => (by cases hg)⟩
  have H := cr_211 M (ρ 0) (ρ 1) (ρ 2) (ρ 3) (hB _ List.mem_cons_self) (hB _ (List.mem_cons_of_mem _ List.mem_cons_self)) (hB _ (List.mem_cons_of_mem _ (List.mem_cons_of_mem _ List.mem_cons_self))) (hB _ (List.mem_cons_of_mem _ (List.mem_cons_of_mem _ (List.mem_cons_of_mem _ List.mem_cons_self)))) (cvp 53 (x' := (4096 * (ρ 0) + (ρ 1))) (y' := (256 * (ρ 2) + 69)) (by show 0 + (4096 * ρ 0 + (1 * ρ 1 + 0)) = _; omega) (by show 69 + (256 * ρ 2 + 0) = _; omega) (hm _ List.mem_cons_self)) (cvp 47 (x' := ((ρ 2))) (y' := (262150 : Int)) (by show 0 + (1 * ρ 2 + 0) = _; omega) (by show 262150 + 0 = _; omega) (hm _ (List.mem_cons_of_mem _ List.mem_cons_self))) (cvp 46 (x' := ((ρ 2))) (y' := ((ρ 3))) (by show 0 + (1 * ρ 2 + 0) = _; omega) (by show 0 + (1 * ρ 3 + 0) = _; omega) (hm _ (List.mem_cons_of_mem _ (List.mem_cons_of_mem _ List.mem_cons_self)))) hG
  obtain ⟨k0, -⟩ := H
  exact ⟨_, List.mem_cons_self, ρ, fun _ _ => rfl, (okM_c (pvp 53 (by show 0 + (4096 * ρ 0 + (1 * ρ 1 + 0)) = _; omega) (by show 70 + (256 * ρ 3 + 0) = _; omega) k0) okM_n), okB_n, okF_n⟩
-- fk69
theorem cr_212 (M : pM) (s0 s1 s2 s3 s4 : Int) (b0 : 0 ≤ s0 ∧ s0 ≤ 1900) (b1 : 0 ≤ s1 ∧ s1 ≤ 950) (b2 : 0 ≤ s2 ∧ s2 ≤ 1900) (b3 : 0 ≤ s3 ∧ s3 ≤ 1900) (b4 : 256 ≤ s4 ∧ s4 ≤ 600000) (m0 : HP 53 (4096 * s0 + s1) (256 * s2 + 69) M) (m1 : HP 47 (s2) (s4) M) (m2 : HP 45 (s2) (s3) M) (f0 : 0 ≤ ((-1) * s4 + 262149)) (hG : gI M) : (HP 66 (s3) (2 : Int) M ∧ True) := by
  refine ⟨r_fl (K := 4) (j := 4) m0 m1 m2 ⟨by omega, by omega, by decide⟩ (fun s hs hE e => ?_), trivial⟩
  show qcK 262150 (tK (tm M) (qps (tm M) s.1 5)) = some 2
  rw [e]
  exact qcK_2 (by omega) (by omega)
theorem rul_212 : Rul r_212 := by
  refine ⟨fun _ ρ M hm hB hF hG => ?_, fun gi gv hg => (by cases hg)⟩
  have H := cr_212 M (ρ 0) (ρ 1) (ρ 2) (ρ 3) (ρ 4) (hB _ List.mem_cons_self) (hB _ (List.mem_cons_of_mem _ List.mem_cons_self)) (hB _ (List.mem_cons_of_mem _ (List.mem_cons_of_mem _ List.mem_cons_self))) (hB _ (List.mem_cons_of_mem _ (List.mem_cons_of_mem _ (List.mem_cons_of_mem _ List.mem_cons_self)))) (hB _ (List.mem_cons_of_mem _ (List.mem_cons_of_mem _ (List.mem_cons_of_mem _ (List.mem_cons_of_mem _ List.mem_cons_self))))) (cvp 53 (x' := (4096 * (ρ 0) + (ρ 1))) (y' := (256 * (ρ 2) + 69)) (by show 0 + (4096 * ρ 0 + (1 * ρ 1 + 0)) = _; omega) (by show 69 + (256 * ρ 2 + 0) = _; omega) (hm _ List.mem_cons_self)) (cvp 47 (x' := ((ρ 2))) (y' := ((ρ 4))) (by show 0 + (1 * ρ 2 + 0) = _; omega) (by show 0 + (1 * ρ 4 + 0) = _; omega) (hm _ (List.mem_cons_of_mem _ List.mem_cons_self))) (cvp 45 (x' := ((ρ 2))) (y' := ((ρ 3))) (by show 0 + (1 * ρ 2 + 0) = _; omega) (by show 0 + (1 * ρ 3 + 0) = _; omega) (hm _ (List.mem_cons_of_mem _ (List.mem_cons_of_mem _ List.mem_cons_self)))) (by have h := hF _ List.mem_cons_self; have h : 0 ≤ 262149 + ((-1) * ρ 4 + 0) := h; omega) hG
  obtain ⟨k0, -⟩ := H
  exact ⟨_, List.mem_cons_self, ρ, fun _ _ => rfl, (okM_c (pvp 66 (by show 0 + (1 * ρ 3 + 0) = _; omega) (by show 2 + 0 = _; omega) k0) okM_n), okB_n, okF_n⟩
-- fl69
theorem cr_213 (M : pM) (s0 s1 s2 s3 s4 : Int) (b0 : 0 ≤ s0 ∧ s0 ≤ 1900) (b1 : 0 ≤ s1 ∧ s1 ≤ 950) (b2 : 0 ≤ s2 ∧ s2 ≤ 1900) (b3 : 0 ≤ s3 ∧ s3 ≤ 1900) (b4 : 256 ≤ s4 ∧ s4 ≤ 600000) (m0 : HP 53 (4096 * s0 + s1) (256 * s2 + 69) M) (m1 : HP 47 (s2) (s4) M) (m2 : HP 45 (s2) (s3) M) (f0 : 0 ≤ (s4 - 262151)) (hG : gI M) : (HP 66 (s3) (2 : Int) M ∧ True) := by
  refine ⟨r_fl (K := 4) (j := 4) m0 m1 m2 ⟨by omega, by omega, by decide⟩ (fun s hs hE e => ?_), trivial⟩
  show qcK 262150 (tK (tm M) (qps (tm M) s.1 5)) = some 2
  rw [e]
  exact qcK_2 (by omega) (by omega)
theorem rul_213 : Rul r_213 := by
  refine ⟨fun _ ρ M hm hB hF hG => ?_, fun gi gv hg => (by cases hg)⟩
  have H := cr_213 M (ρ 0) (ρ 1) (ρ 2) (ρ 3) (ρ 4) (hB _ List.mem_cons_self) (hB _ (List.mem_cons_of_mem _ List.mem_cons_self)) (hB _ (List.mem_cons_of_mem _ (List.mem_cons_of_mem _ List.mem_cons_self))) (hB _ (List.mem_cons_of_mem _ (List.mem_cons_of_mem _ (List.mem_cons_of_mem _ List.mem_cons_self)))) (hB _ (List.mem_cons_of_mem _ (List.mem_cons_of_mem _ (List.mem_cons_of_mem _ (List.mem_cons_of_mem _ List.mem_cons_self))))) (cvp 53 (x' := (4096 * (ρ 0) + (ρ 1))) (y' := (256 * (ρ 2) + 69)) (by show 0 + (4096 * ρ 0 + (1 * ρ 1 + 0)) = _; omega) (by show 69 + (256 * ρ 2 + 0) = _; omega) (hm _ List.mem_cons_self)) (cvp 47 (x' := ((ρ 2))) (y' := ((ρ 4))) (by show 0 + (1 * ρ 2 + 0) = _; omega) (by show 0 + (1 * ρ 4 + 0) = _; omega) (hm _ (List.mem_cons_of_mem _ List.mem_cons_self))) (cvp 45 (x' := ((ρ 2))) (y' := ((ρ 3))) (by show 0 + (1 * ρ 2 + 0) = _; omega) (by show 0 + (1 * ρ 3 + 0) = _; omega) (hm _ (List.mem_cons_of_mem _ (List.mem_cons_of_mem _ List.mem_cons_self)))) (by have h := hF _ List.mem_cons_self; have h : 0 ≤ (-262151) + (1 * ρ 4 + 0) := h; omega) hG
  obtain ⟨k0, -⟩ := H
  exact ⟨_, List.mem_cons_self, ρ, fun _ _ => rfl, (okM_c (pvp 66 (by show 0 + (1 * ρ 3 + 0) = _; omega) (by show 2 + 0 = _; omega) k0) okM_n), okB_n, okF_n⟩
-- fk70
theorem cr_214 (M : pM) (s0 s1 s2 s3 s4 : Int) (b0 : 0 ≤ s0 ∧ s0 ≤ 1900) (b1 : 0 ≤ s1 ∧ s1 ≤ 950) (b2 : 0 ≤ s2 ∧ s2 ≤ 1900) (b3 : 0 ≤ s3 ∧ s3 ≤ 1900) (b4 : 256 ≤ s4 ∧ s4 ≤ 600000) (m0 : HP 53 (4096 * s0 + s1) (256 * s2 + 70) M) (m1 : HP 47 (s2) (s4) M) (m2 : HP 45 (s2) (s3) M) (f0 : 0 ≤ ((-1) * s4 + 393215)) (hG : gI M) : (HP 66 (s3) (2 : Int) M ∧ True) := by
  refine ⟨r_fl (K := 4) (j := 5) m0 m1 m2 ⟨by omega, by omega, by decide⟩ (fun s hs hE e => ?_), trivial⟩
  show qcN 0 36 none (tK (tm M) (qps (tm M) s.1 6)) = some 2
  rw [e]
  exact qcN_2 (by omega) (by omega)
theorem rul_214 : Rul r_214 := by
  refine ⟨fun _ ρ M hm hB hF hG => ?_, fun gi gv hg => (by cases hg)⟩
  have H := cr_214 M (ρ 0) (ρ 1) (ρ 2) (ρ 3) (ρ 4) (hB _ List.mem_cons_self) (hB _ (List.mem_cons_of_mem _ List.mem_cons_self)) (hB _ (List.mem_cons_of_mem _ (List.mem_cons_of_mem _ List.mem_cons_self))) (hB _ (List.mem_cons_of_mem _ (List.mem_cons_of_mem _ (List.mem_cons_of_mem _ List.mem_cons_self)))) (hB _ (List.mem_cons_of_mem _ (List.mem_cons_of_mem _ (List.mem_cons_of_mem _ (List.mem_cons_of_mem _ List.mem_cons_self))))) (cvp 53 (x' := (4096 * (ρ 0) + (ρ 1))) (y' := (256 * (ρ 2) + 70)) (by show 0 + (4096 * ρ 0 + (1 * ρ 1 + 0)) = _; omega) (by show 70 + (256 * ρ 2 + 0) = _; omega) (hm _ List.mem_cons_self)) (cvp 47 (x' := ((ρ 2))) (y' := ((ρ 4))) (by show 0 + (1 * ρ 2 + 0) = _; omega) (by show 0 + (1 * ρ 4 + 0) = _; omega) (hm _ (List.mem_cons_of_mem _ List.mem_cons_self))) (cvp 45 (x' := ((ρ 2))) (y' := ((ρ 3))) (by show 0 + (1 * ρ 2 + 0) = _; omega) (by show 0 + (1 * ρ 3 + 0) = _; omega) (hm _ (List.mem_cons_of_mem _ (List.mem_cons_of_mem _ List.mem_cons_self)))) (by have h := hF _ List.mem_cons_self; have h : 0 ≤ 393215 + ((-1) * ρ 4 + 0) := h; omega) hG
  obtain ⟨k0, -⟩ := H
  exact ⟨_, List.mem_cons_self, ρ, fun _ _ => rfl, (okM_c (pvp 66 (by show 0 + (1 * ρ 3 + 0) = _; omega) (by show 2 + 0 = _; omega) k0) okM_n), okB_n, okF_n⟩
-- fl70
theorem cr_215 (M : pM) (s0 s1 s2 s3 s4 : Int) (b0 : 0 ≤ s0 ∧ s0 ≤ 1900) (b1 : 0 ≤ s1 ∧ s1 ≤ 950) (b2 : 0 ≤ s2 ∧ s2 ≤ 1900) (b3 : 0 ≤ s3 ∧ s3 ≤ 1900) (b4 : 256 ≤ s4 ∧ s4 ≤ 600000) (m0 : HP 53 (4096 * s0 + s1) (256 * s2 + 70) M) (m1 : HP 47 (s2) (s4) M) (m2 : HP 45 (s2) (s3) M) (f0 : 0 ≤ (s4 - 403216)) (hG : gI M) : (HP 66 (s3) (2 : Int) M ∧ True) := by
  refine ⟨r_fl (K := 4) (j := 5) m0 m1 m2 ⟨by omega, by omega, by decide⟩ (fun s hs hE e => ?_), trivial⟩
  show qcN 0 36 none (tK (tm M) (qps (tm M) s.1 6)) = some 2
  rw [e]
  exact qcN_2 (by omega) (by omega)
theorem rul_215 : Rul r_215 := by
  refine ⟨fun _ ρ M hm hB hF hG => ?_, fun gi gv hg => (by cases hg)⟩
  have H := cr_215 M (ρ 0) (ρ 1) (ρ 2) (ρ 3) (ρ 4) (hB _ List.mem_cons_self) (hB _ (List.mem_cons_of_mem _ List.mem_cons_self)) (hB _ (List.mem_cons_of_mem _ (List.mem_cons_of_mem _ List.mem_cons_self))) (hB _ (List.mem_cons_of_mem _ (List.mem_cons_of_mem _ (List.mem_cons_of_mem _ List.mem_cons_self)))) (hB _ (List.mem_cons_of_mem _ (List.mem_cons_of_mem _ (List.mem_cons_of_mem _ (List.mem_cons_of_mem _ List.mem_cons_self))))) (cvp 53 (x' := (4096 * (ρ 0) + (ρ 1))) (y' := (256 * (ρ 2) + 70)) (by show 0 + (4096 * ρ 0 + (1 * ρ 1 + 0)) = _; omega) (by show 70 + (256 * ρ 2 + 0) = _; omega) (hm _ List.mem_cons_self)) (cvp 47 (x' := ((ρ 2))) (y' := ((ρ 4))) (by show 0 + (1 * ρ 2 + 0) = _; omega) (by show 0 + (1 * ρ 4 + 0) = _; omega) (hm _ (List.mem_cons_of_mem _ List.mem_cons_self))) (cvp 45 (x' := ((ρ 2))) (y' := ((ρ 3))) (by show 0 + (1 * ρ 2 + 0) = _; omega) (by show 0 + (1 * ρ 3 + 0) = _; omega) (hm _ (List.mem_cons_of_mem _ (List.mem_cons_of_mem _ List.mem_cons_self)))) (by have h := hF _ List.mem_cons_self; have h : 0 ≤ (-403216) + (1 * ρ 4 + 0) := h; omega) hG
  obtain ⟨k0, -⟩ := H
  exact ⟨_, List.mem_cons_self, ρ, fun _ _ => rfl, (okM_c (pvp 66 (by show 0 + (1 * ρ 3 + 0) = _; omega) (by show 2 + 0 = _; omega) k0) okM_n), okB_n, okF_n⟩
-- fn70
theorem cr_216 (M : pM) (s0 s1 s2 s3 s4 : Int) (b0 : 0 ≤ s0 ∧ s0 ≤ 1900) (b1 : 0 ≤ s1 ∧ s1 ≤ 950) (b2 : 0 ≤ s2 ∧ s2 ≤ 1900) (b3 : 0 ≤ s3 ∧ s3 ≤ 1900) (b4 : 0 ≤ s4 ∧ s4 ≤ 9999) (m0 : HP 53 (4096 * s0 + s1) (256 * s2 + 70) M) (m1 : HP 47 (s2) (s4 + 393216) M) (m2 : HP 45 (s2) (s3) M) (f0 : 0 ≤ (s4 - 37)) (hG : gI M) : (HP 66 (s3) (4 : Int) M ∧ True) := by
  refine ⟨r_fl (K := 4) (j := 5) m0 m1 m2 ⟨by omega, by omega, by decide⟩ (fun s hs hE e => ?_), trivial⟩
  show qcN 0 36 none (tK (tm M) (qps (tm M) s.1 6)) = some 4
  rw [e]
  exact qcN_4 (by omega) (Or.inr (by omega))
theorem rul_216 : Rul r_216 := by
  refine ⟨fun _ ρ M hm hB hF hG => ?_, fun gi gv hg => (by cases hg)⟩
  have H := cr_216 M (ρ 0) (ρ 1) (ρ 2) (ρ 3) (ρ 4) (hB _ List.mem_cons_self) (hB _ (List.mem_cons_of_mem _ List.mem_cons_self)) (hB _ (List.mem_cons_of_mem _ (List.mem_cons_of_mem _ List.mem_cons_self))) (hB _ (List.mem_cons_of_mem _ (List.mem_cons_of_mem _ (List.mem_cons_of_mem _ List.mem_cons_self)))) (hB _ (List.mem_cons_of_mem _ (List.mem_cons_of_mem _ (List.mem_cons_of_mem _ (List.mem_cons_of_mem _ List.mem_cons_self))))) (cvp 53 (x' := (4096 * (ρ 0) + (ρ 1))) (y' := (256 * (ρ 2) + 70)) (by show 0 + (4096 * ρ 0 + (1 * ρ 1 + 0)) = _; omega) (by show 70 + (256 * ρ 2 + 0) = _; omega) (hm _ List.mem_cons_self)) (cvp 47 (x' := ((ρ 2))) (y' := ((ρ 4) + 393216)) (by show 0 + (1 * ρ 2 + 0) = _; omega) (by show 393216 + (1 * ρ 4 + 0) = _; omega) (hm _ (List.mem_cons_of_mem _ List.mem_cons_self))) (cvp 45 (x' := ((ρ 2))) (y' := ((ρ 3))) (by show 0 + (1 * ρ 2 + 0) = _; omega) (by show 0 + (1 * ρ 3 + 0) = _; omega) (hm _ (List.mem_cons_of_mem _ (List.mem_cons_of_mem _ List.mem_cons_self)))) (by have h := hF _ List.mem_cons_self; have h : 0 ≤ (-37) + (1 * ρ 4 + 0) := h; omega) hG
  obtain ⟨k0, -⟩ := H
  exact ⟨_, List.mem_cons_self, ρ, fun _ _ => rfl, (okM_c (pvp 66 (by show 0 + (1 * ρ 3 + 0) = _; omega) (by show 4 + 0 = _; omega) k0) okM_n), okB_n, okF_n⟩
-- ex70
theorem cr_217 (M : pM) (s0 s1 s2 s3 s4 : Int) (b0 : 0 ≤ s0 ∧ s0 ≤ 1900) (b1 : 0 ≤ s1 ∧ s1 ≤ 950) (b2 : 0 ≤ s2 ∧ s2 ≤ 1900) (b3 : 0 ≤ s3 ∧ s3 ≤ 1900) (b4 : 0 ≤ s4 ∧ s4 ≤ 9999) (m0 : HP 53 (4096 * s0 + s1) (256 * s2 + 70) M) (m1 : HP 47 (s2) (s4 + 393216) M) (m2 : HP 46 (s2) (s3) M) (f0 : 0 ≤ (s4)) (f1 : 0 ≤ ((-1) * s4 + 36)) (hG : gI M) : (HP 53 (4096 * s0 + s1) (256 * s3 + 71) M ∧ HP 79 (16 * s0 + 6) (s4) M ∧ True) := by
  refine ⟨?_, ?_, trivial⟩
  · exact r_ex (K := 4) (j := 5) m0 m1 m2 ⟨by omega, by omega, by decide⟩ (by omega) (by decide) (fun s hs hE e => by
        show qcN 0 36 none (tK (tm M) (qps (tm M) s.1 6)) = none
        rw [e]
        exact qcN_x (by omega) (by omega))
  · exact r_va (P := s0) (l := s1) (K := 4) (j := 5) m0 m1 ⟨by omega, by omega, by omega⟩ ⟨by omega, by omega, by decide⟩ (by omega) (by omega)
theorem rul_217 : Rul r_217 := by
  refine ⟨fun _ ρ M hm hB hF hG => ?_, fun gi gv hg => (by cases hg)⟩
  have H := cr_217 M (ρ 0) (ρ 1) (ρ 2) (ρ 3) (ρ 4) (hB _ List.mem_cons_self) (hB _ (List.mem_cons_of_mem _ List.mem_cons_self)) (hB _ (List.mem_cons_of_mem _ (List.mem_cons_of_mem _ List.mem_cons_self))) (hB _ (List.mem_cons_of_mem _ (List.mem_cons_of_mem _ (List.mem_cons_of_mem _ List.mem_cons_self)))) (hB _ (List.mem_cons_of_mem _ (List.mem_cons_of_mem _ (List.mem_cons_of_mem _ (List.mem_cons_of_mem _ List.mem_cons_self))))) (cvp 53 (x' := (4096 * (ρ 0) + (ρ 1))) (y' := (256 * (ρ 2) + 70)) (by show 0 + (4096 * ρ 0 + (1 * ρ 1 + 0)) = _; omega) (by show 70 + (256 * ρ 2 + 0) = _; omega) (hm _ List.mem_cons_self)) (cvp 47 (x' := ((ρ 2))) (y' := ((ρ 4) + 393216)) (by show 0 + (1 * ρ 2 + 0) = _; omega) (by show 393216 + (1 * ρ 4 + 0) = _; omega) (hm _ (List.mem_cons_of_mem _ List.mem_cons_self))) (cvp 46 (x' := ((ρ 2))) (y' := ((ρ 3))) (by show 0 + (1 * ρ 2 + 0) = _; omega) (by show 0 + (1 * ρ 3 + 0) = _; omega) (hm _ (List.mem_cons_of_mem _ (List.mem_cons_of_mem _ List.mem_cons_self)))) (by have h := hF _ List.mem_cons_self; have h : 0 ≤ 0 + (1 * ρ 4 + 0) := h; omega) (by have h := hF _ (List.mem_cons_of_mem _ List.mem_cons_self); have h : 0 ≤ 36 + ((-1) * ρ 4 + 0) := h; omega) hG
  obtain ⟨k0, k1, -⟩ := H
  exact ⟨_, List.mem_cons_self, ρ, fun _ _ => rfl, (okM_c (pvp 53 (by show 0 + (4096 * ρ 0 + (1 * ρ 1 + 0)) = _; omega) (by show 71 + (256 * ρ 3 + 0) = _; omega) k0) (okM_c (pvp 79 (by show 6 + (16 * ρ 0 + 0) = _; omega) (by show 0 + (1 * ρ 4 + 0) = _; omega) k1) okM_n)), okB_n, okF_n⟩
-- ex71
theorem cr_218 (M : pM) (s0 s1 s2 s3 : Int) (b0 : 0 ≤ s0 ∧ s0 ≤ 1900) (b1 : 0 ≤ s1 ∧ s1 ≤ 950) (b2 : 0 ≤ s2 ∧ s2 ≤ 1900) (b3 : 0 ≤ s3 ∧ s3 ≤ 1900) (m0 : HP 53 (4096 * s0 + s1) (256 * s2 + 71) M) (m1 : HP 47 (s2) (262151 : Int) M) (m2 : HP 46 (s2) (s3) M) (hG : gI M) : (HP 53 (4096 * s0 + s1) (256 * s3 + 72) M ∧ True) := by
  refine ⟨?_, trivial⟩
  · exact r_ex (K := 4) (j := 6) m0 m1 m2 ⟨by omega, by omega, by decide⟩ (by omega) (by decide) (fun s hs hE e => by
        show qcK 262151 (tK (tm M) (qps (tm M) s.1 7)) = none
        rw [e]
        exact qcK_x (by omega) (by omega))
theorem rul_218 : Rul r_218 := by
  refine ⟨fun _ ρ M hm hB hF hG => ?_, fun gi gv hg => (by cases hg)⟩
  have H := cr_218 M (ρ 0) (ρ 1) (ρ 2) (ρ 3) (hB _ List.mem_cons_self) (hB _ (List.mem_cons_of_mem _ List.mem_cons_self)) (hB _ (List.mem_cons_of_mem _ (List.mem_cons_of_mem _ List.mem_cons_self))) (hB _ (List.mem_cons_of_mem _ (List.mem_cons_of_mem _ (List.mem_cons_of_mem _ List.mem_cons_self)))) (cvp 53 (x' := (4096 * (ρ 0) + (ρ 1))) (y' := (256 * (ρ 2) + 71)) (by show 0 + (4096 * ρ 0 + (1 * ρ 1 + 0)) = _; omega) (by show 71 + (256 * ρ 2 + 0) = _; omega) (hm _ List.mem_cons_self)) (cvp 47 (x' := ((ρ 2))) (y' := (262151 : Int)) (by show 0 + (1 * ρ 2 + 0) = _; omega) (by show 262151 + 0 = _; omega) (hm _ (List.mem_cons_of_mem _ List.mem_cons_self))) (cvp 46 (x' := ((ρ 2))) (y' := ((ρ 3))) (by show 0 + (1 * ρ 2 + 0) = _; omega) (by show 0 + (1 * ρ 3 + 0) = _; omega) (hm _ (List.mem_cons_of_mem _ (List.mem_cons_of_mem _ List.mem_cons_self)))) hG
  obtain ⟨k0, -⟩ := H
  exact ⟨_, List.mem_cons_self, ρ, fun _ _ => rfl, (okM_c (pvp 53 (by show 0 + (4096 * ρ 0 + (1 * ρ 1 + 0)) = _; omega) (by show 72 + (256 * ρ 3 + 0) = _; omega) k0) okM_n), okB_n, okF_n⟩
-- fk71
theorem cr_219 (M : pM) (s0 s1 s2 s3 s4 : Int) (b0 : 0 ≤ s0 ∧ s0 ≤ 1900) (b1 : 0 ≤ s1 ∧ s1 ≤ 950) (b2 : 0 ≤ s2 ∧ s2 ≤ 1900) (b3 : 0 ≤ s3 ∧ s3 ≤ 1900) (b4 : 256 ≤ s4 ∧ s4 ≤ 600000) (m0 : HP 53 (4096 * s0 + s1) (256 * s2 + 71) M) (m1 : HP 47 (s2) (s4) M) (m2 : HP 45 (s2) (s3) M) (f0 : 0 ≤ ((-1) * s4 + 262150)) (hG : gI M) : (HP 66 (s3) (2 : Int) M ∧ True) := by
  refine ⟨r_fl (K := 4) (j := 6) m0 m1 m2 ⟨by omega, by omega, by decide⟩ (fun s hs hE e => ?_), trivial⟩
  show qcK 262151 (tK (tm M) (qps (tm M) s.1 7)) = some 2
  rw [e]
  exact qcK_2 (by omega) (by omega)
theorem rul_219 : Rul r_219 := by
  refine ⟨fun _ ρ M hm hB hF hG => ?_, fun gi gv hg => (by cases hg)⟩
  have H := cr_219 M (ρ 0) (ρ 1) (ρ 2) (ρ 3) (ρ 4) (hB _ List.mem_cons_self) (hB _ (List.mem_cons_of_mem _ List.mem_cons_self)) (hB _ (List.mem_cons_of_mem _ (List.mem_cons_of_mem _ List.mem_cons_self))) (hB _ (List.mem_cons_of_mem _ (List.mem_cons_of_mem _ (List.mem_cons_of_mem _ List.mem_cons_self)))) (hB _ (List.mem_cons_of_mem _ (List.mem_cons_of_mem _ (List.mem_cons_of_mem _ (List.mem_cons_of_mem _ List.mem_cons_self))))) (cvp 53 (x' := (4096 * (ρ 0) + (ρ 1))) (y' := (256 * (ρ 2) + 71)) (by show 0 + (4096 * ρ 0 + (1 * ρ 1 + 0)) = _; omega) (by show 71 + (256 * ρ 2 + 0) = _; omega) (hm _ List.mem_cons_self)) (cvp 47 (x' := ((ρ 2))) (y' := ((ρ 4))) (by show 0 + (1 * ρ 2 + 0) = _; omega) (by show 0 + (1 * ρ 4 + 0) = _; omega) (hm _ (List.mem_cons_of_mem _ List.mem_cons_self))) (cvp 45 (x' := ((ρ 2))) (y' := ((ρ 3))) (by show 0 + (1 * ρ 2 + 0) = _; omega) (by show 0 + (1 * ρ 3 + 0) = _; omega) (hm _ (List.mem_cons_of_mem _ (List.mem_cons_of_mem _ List.mem_cons_self)))) (by have h := hF _ List.mem_cons_self; have h : 0 ≤ 262150 + ((-1) * ρ 4 + 0) := h; omega) hG
  obtain ⟨k0, -⟩ := H
  exact ⟨_, List.mem_cons_self, ρ, fun _ _ => rfl, (okM_c (pvp 66 (by show 0 + (1 * ρ 3 + 0) = _; omega) (by show 2 + 0 = _; omega) k0) okM_n), okB_n, okF_n⟩
-- fl71
theorem cr_220 (M : pM) (s0 s1 s2 s3 s4 : Int) (b0 : 0 ≤ s0 ∧ s0 ≤ 1900) (b1 : 0 ≤ s1 ∧ s1 ≤ 950) (b2 : 0 ≤ s2 ∧ s2 ≤ 1900) (b3 : 0 ≤ s3 ∧ s3 ≤ 1900) (b4 : 256 ≤ s4 ∧ s4 ≤ 600000) (m0 : HP 53 (4096 * s0 + s1) (256 * s2 + 71) M) (m1 : HP 47 (s2) (s4) M) (m2 : HP 45 (s2) (s3) M) (f0 : 0 ≤ (s4 - 262152)) (hG : gI M) : (HP 66 (s3) (2 : Int) M ∧ True) := by
  refine ⟨r_fl (K := 4) (j := 6) m0 m1 m2 ⟨by omega, by omega, by decide⟩ (fun s hs hE e => ?_), trivial⟩
  show qcK 262151 (tK (tm M) (qps (tm M) s.1 7)) = some 2
  rw [e]
  exact qcK_2 (by omega) (by omega)
theorem rul_220 : Rul r_220 := by
  refine ⟨fun _ ρ M hm hB hF hG => ?_, fun gi gv hg => (by cases hg)⟩
  have H := cr_220 M (ρ 0) (ρ 1) (ρ 2) (ρ 3) (ρ 4) (hB _ List.mem_cons_self) (hB _ (List.mem_cons_of_mem _ List.mem_cons_self)) (hB _ (List.mem_cons_of_mem _ (List.mem_cons_of_mem _ List.mem_cons_self))) (hB _ (List.mem_cons_of_mem _ (List.mem_cons_of_mem _ (List.mem_cons_of_mem _ List.mem_cons_self)))) (hB _ (List.mem_cons_of_mem _ (List.mem_cons_of_mem _ (List.mem_cons_of_mem _ (List.mem_cons_of_mem _ List.mem_cons_self))))) (cvp 53 (x' := (4096 * (ρ 0) + (ρ 1))) (y' := (256 * (ρ 2) + 71)) (by show 0 + (4096 * ρ 0 + (1 * ρ 1 + 0)) = _; omega) (by show 71 + (256 * ρ 2 + 0) = _; omega) (hm _ List.mem_cons_self)) (cvp 47 (x' := ((ρ 2))) (y' := ((ρ 4))) (by show 0 + (1 * ρ 2 + 0) = _; omega) (by show 0 + (1 * ρ 4 + 0) = _; omega) (hm _ (List.mem_cons_of_mem _ List.mem_cons_self))) (cvp 45 (x' := ((ρ 2))) (y' := ((ρ 3))) (by show 0 + (1 * ρ 2 + 0) = _; omega) (by show 0 + (1 * ρ 3 + 0) = _; omega) (hm _ (List.mem_cons_of_mem _ (List.mem_cons_of_mem _ List.mem_cons_self)))) (by have h := hF _ List.mem_cons_self; have h : 0 ≤ (-262152) + (1 * ρ 4 + 0) := h; omega) hG
  obtain ⟨k0, -⟩ := H
  exact ⟨_, List.mem_cons_self, ρ, fun _ _ => rfl, (okM_c (pvp 66 (by show 0 + (1 * ρ 3 + 0) = _; omega) (by show 2 + 0 = _; omega) k0) okM_n), okB_n, okF_n⟩
-- fk72
theorem cr_221 (M : pM) (s0 s1 s2 s3 s4 : Int) (b0 : 0 ≤ s0 ∧ s0 ≤ 1900) (b1 : 0 ≤ s1 ∧ s1 ≤ 950) (b2 : 0 ≤ s2 ∧ s2 ≤ 1900) (b3 : 0 ≤ s3 ∧ s3 ≤ 1900) (b4 : 256 ≤ s4 ∧ s4 ≤ 600000) (m0 : HP 53 (4096 * s0 + s1) (256 * s2 + 72) M) (m1 : HP 47 (s2) (s4) M) (m2 : HP 45 (s2) (s3) M) (f0 : 0 ≤ ((-1) * s4 + 393215)) (hG : gI M) : (HP 66 (s3) (2 : Int) M ∧ True) := by
  refine ⟨r_fl (K := 4) (j := 7) m0 m1 m2 ⟨by omega, by omega, by decide⟩ (fun s hs hE e => ?_), trivial⟩
  show qcN (qvl (tm M) s.1 6 + 1) 36 none (tK (tm M) (qps (tm M) s.1 8)) = some 2
  rw [e]
  exact qcN_2 (by omega) (by omega)
theorem rul_221 : Rul r_221 := by
  refine ⟨fun _ ρ M hm hB hF hG => ?_, fun gi gv hg => (by cases hg)⟩
  have H := cr_221 M (ρ 0) (ρ 1) (ρ 2) (ρ 3) (ρ 4) (hB _ List.mem_cons_self) (hB _ (List.mem_cons_of_mem _ List.mem_cons_self)) (hB _ (List.mem_cons_of_mem _ (List.mem_cons_of_mem _ List.mem_cons_self))) (hB _ (List.mem_cons_of_mem _ (List.mem_cons_of_mem _ (List.mem_cons_of_mem _ List.mem_cons_self)))) (hB _ (List.mem_cons_of_mem _ (List.mem_cons_of_mem _ (List.mem_cons_of_mem _ (List.mem_cons_of_mem _ List.mem_cons_self))))) (cvp 53 (x' := (4096 * (ρ 0) + (ρ 1))) (y' := (256 * (ρ 2) + 72)) (by show 0 + (4096 * ρ 0 + (1 * ρ 1 + 0)) = _; omega) (by show 72 + (256 * ρ 2 + 0) = _; omega) (hm _ List.mem_cons_self)) (cvp 47 (x' := ((ρ 2))) (y' := ((ρ 4))) (by show 0 + (1 * ρ 2 + 0) = _; omega) (by show 0 + (1 * ρ 4 + 0) = _; omega) (hm _ (List.mem_cons_of_mem _ List.mem_cons_self))) (cvp 45 (x' := ((ρ 2))) (y' := ((ρ 3))) (by show 0 + (1 * ρ 2 + 0) = _; omega) (by show 0 + (1 * ρ 3 + 0) = _; omega) (hm _ (List.mem_cons_of_mem _ (List.mem_cons_of_mem _ List.mem_cons_self)))) (by have h := hF _ List.mem_cons_self; have h : 0 ≤ 393215 + ((-1) * ρ 4 + 0) := h; omega) hG
  obtain ⟨k0, -⟩ := H
  exact ⟨_, List.mem_cons_self, ρ, fun _ _ => rfl, (okM_c (pvp 66 (by show 0 + (1 * ρ 3 + 0) = _; omega) (by show 2 + 0 = _; omega) k0) okM_n), okB_n, okF_n⟩
-- fl72
theorem cr_222 (M : pM) (s0 s1 s2 s3 s4 : Int) (b0 : 0 ≤ s0 ∧ s0 ≤ 1900) (b1 : 0 ≤ s1 ∧ s1 ≤ 950) (b2 : 0 ≤ s2 ∧ s2 ≤ 1900) (b3 : 0 ≤ s3 ∧ s3 ≤ 1900) (b4 : 256 ≤ s4 ∧ s4 ≤ 600000) (m0 : HP 53 (4096 * s0 + s1) (256 * s2 + 72) M) (m1 : HP 47 (s2) (s4) M) (m2 : HP 45 (s2) (s3) M) (f0 : 0 ≤ (s4 - 403216)) (hG : gI M) : (HP 66 (s3) (2 : Int) M ∧ True) := by
  refine ⟨r_fl (K := 4) (j := 7) m0 m1 m2 ⟨by omega, by omega, by decide⟩ (fun s hs hE e => ?_), trivial⟩
  show qcN (qvl (tm M) s.1 6 + 1) 36 none (tK (tm M) (qps (tm M) s.1 8)) = some 2
  rw [e]
  exact qcN_2 (by omega) (by omega)
theorem rul_222 : Rul r_222 := by
  refine ⟨fun _ ρ M hm hB hF hG => ?_, fun gi gv hg => (by cases hg)⟩
  have H := cr_222 M (ρ 0) (ρ 1) (ρ 2) (ρ 3) (ρ 4) (hB _ List.mem_cons_self) (hB _ (List.mem_cons_of_mem _ List.mem_cons_self)) (hB _ (List.mem_cons_of_mem _ (List.mem_cons_of_mem _ List.mem_cons_self))) (hB _ (List.mem_cons_of_mem _ (List.mem_cons_of_mem _ (List.mem_cons_of_mem _ List.mem_cons_self)))) (hB _ (List.mem_cons_of_mem _ (List.mem_cons_of_mem _ (List.mem_cons_of_mem _ (List.mem_cons_of_mem _ List.mem_cons_self))))) (cvp 53 (x' := (4096 * (ρ 0) + (ρ 1))) (y' := (256 * (ρ 2) + 72)) (by show 0 + (4096 * ρ 0 + (1 * ρ 1 + 0)) = _; omega) (by show 72 + (256 * ρ 2 + 0) = _; omega) (hm _ List.mem_cons_self)) (cvp 47 (x' := ((ρ 2))) (y' := ((ρ 4))) (by show 0 + (1 * ρ 2 + 0) = _; omega) (by show 0 + (1 * ρ 4 + 0) = _; omega) (hm _ (List.mem_cons_of_mem _ List.mem_cons_self))) (cvp 45 (x' := ((ρ 2))) (y' := ((ρ 3))) (by show 0 + (1 * ρ 2 + 0) = _; omega) (by show 0 + (1 * ρ 3 + 0) = _; omega) (hm _ (List.mem_cons_of_mem _ (List.mem_cons_of_mem _ List.mem_cons_self)))) (by have h := hF _ List.mem_cons_self; have h : 0 ≤ (-403216) + (1 * ρ 4 + 0) := h; omega) hG
  obtain ⟨k0, -⟩ := H
  exact ⟨_, List.mem_cons_self, ρ, fun _ _ => rfl, (okM_c (pvp 66 (by show 0 + (1 * ρ 3 + 0) = _; omega) (by show 2 + 0 = _; omega) k0) okM_n), okB_n, okF_n⟩
-- fm72
theorem cr_223 (M : pM) (s0 s1 s2 s3 s4 s5 : Int) (b0 : 0 ≤ s0 ∧ s0 ≤ 1900) (b1 : 0 ≤ s1 ∧ s1 ≤ 950) (b2 : 0 ≤ s2 ∧ s2 ≤ 1900) (b3 : 0 ≤ s3 ∧ s3 ≤ 1900) (b4 : 0 ≤ s4 ∧ s4 ≤ 9999) (b5 : 0 ≤ s5 ∧ s5 ≤ 36) (m0 : HP 53 (4096 * s0 + s1) (256 * s2 + 72) M) (m1 : HP 47 (s2) (s4 + 393216) M) (m2 : HP 45 (s2) (s3) M) (m3 : HP 79 (16 * s0 + 6) (s5) M) (f0 : 0 ≤ ((-1) * s4 + s5)) (hG : gI M) : (HP 66 (s3) (4 : Int) M ∧ True) := by
  refine ⟨r_fl (K := 4) (j := 7) m0 m1 m2 ⟨by omega, by omega, by decide⟩ (fun s hs hE e => ?_), trivial⟩
  have hp : s0.toNat = s.1 := by have := qat_p (P := s0) (l := s1) hs ⟨by omega, by omega, by omega⟩; omega
  have hu := q79 (P := s0) (i := 6) m3 ⟨by omega, by decide⟩ (by omega)
  rw [hp] at hu
  show qcN (qvl (tm M) s.1 6 + 1) 36 none (tK (tm M) (qps (tm M) s.1 8)) = some 4
  rw [e]
  exact qcN_4 (by omega) (Or.inl (by omega))
theorem rul_223 : Rul r_223 := by
  refine ⟨fun _ ρ M hm hB hF hG => ?_, fun gi gv hg => (by cases hg)⟩
  have H := cr_223 M (ρ 0) (ρ 1) (ρ 2) (ρ 3) (ρ 4) (ρ 5) (hB _ List.mem_cons_self) (hB _ (List.mem_cons_of_mem _ List.mem_cons_self)) (hB _ (List.mem_cons_of_mem _ (List.mem_cons_of_mem _ List.mem_cons_self))) (hB _ (List.mem_cons_of_mem _ (List.mem_cons_of_mem _ (List.mem_cons_of_mem _ List.mem_cons_self)))) (hB _ (List.mem_cons_of_mem _ (List.mem_cons_of_mem _ (List.mem_cons_of_mem _ (List.mem_cons_of_mem _ List.mem_cons_self))))) (hB _ (List.mem_cons_of_mem _ (List.mem_cons_of_mem _ (List.mem_cons_of_mem _ (List.mem_cons_of_mem _ (List.mem_cons_of_mem _ List.mem_cons_self)))))) (cvp 53 (x' := (4096 * (ρ 0) + (ρ 1))) (y' := (256 * (ρ 2) + 72)) (by show 0 + (4096 * ρ 0 + (1 * ρ 1 + 0)) = _; omega) (by show 72 + (256 * ρ 2 + 0) = _; omega) (hm _ List.mem_cons_self)) (cvp 47 (x' := ((ρ 2))) (y' := ((ρ 4) + 393216)) (by show 0 + (1 * ρ 2 + 0) = _; omega) (by show 393216 + (1 * ρ 4 + 0) = _; omega) (hm _ (List.mem_cons_of_mem _ List.mem_cons_self))) (cvp 45 (x' := ((ρ 2))) (y' := ((ρ 3))) (by show 0 + (1 * ρ 2 + 0) = _; omega) (by show 0 + (1 * ρ 3 + 0) = _; omega) (hm _ (List.mem_cons_of_mem _ (List.mem_cons_of_mem _ List.mem_cons_self)))) (cvp 79 (x' := (16 * (ρ 0) + 6)) (y' := ((ρ 5))) (by show 6 + (16 * ρ 0 + 0) = _; omega) (by show 0 + (1 * ρ 5 + 0) = _; omega) (hm _ (List.mem_cons_of_mem _ (List.mem_cons_of_mem _ (List.mem_cons_of_mem _ List.mem_cons_self))))) (by have h := hF _ List.mem_cons_self; have h : 0 ≤ 0 + ((-1) * ρ 4 + (1 * ρ 5 + 0)) := h; omega) hG
  obtain ⟨k0, -⟩ := H
  exact ⟨_, List.mem_cons_self, ρ, fun _ _ => rfl, (okM_c (pvp 66 (by show 0 + (1 * ρ 3 + 0) = _; omega) (by show 4 + 0 = _; omega) k0) okM_n), okB_n, okF_n⟩
-- fn72
theorem cr_224 (M : pM) (s0 s1 s2 s3 s4 : Int) (b0 : 0 ≤ s0 ∧ s0 ≤ 1900) (b1 : 0 ≤ s1 ∧ s1 ≤ 950) (b2 : 0 ≤ s2 ∧ s2 ≤ 1900) (b3 : 0 ≤ s3 ∧ s3 ≤ 1900) (b4 : 0 ≤ s4 ∧ s4 ≤ 9999) (m0 : HP 53 (4096 * s0 + s1) (256 * s2 + 72) M) (m1 : HP 47 (s2) (s4 + 393216) M) (m2 : HP 45 (s2) (s3) M) (f0 : 0 ≤ (s4 - 37)) (hG : gI M) : (HP 66 (s3) (4 : Int) M ∧ True) := by
  refine ⟨r_fl (K := 4) (j := 7) m0 m1 m2 ⟨by omega, by omega, by decide⟩ (fun s hs hE e => ?_), trivial⟩
  show qcN (qvl (tm M) s.1 6 + 1) 36 none (tK (tm M) (qps (tm M) s.1 8)) = some 4
  rw [e]
  exact qcN_4 (by omega) (Or.inr (by omega))
theorem rul_224 : Rul r_224 := by
  refine ⟨fun _ ρ M hm hB hF hG => ?_, fun gi gv hg => (by cases hg)⟩
  have H := cr_224 M (ρ 0) (ρ 1) (ρ 2) (ρ 3) (ρ 4) (hB _ List.mem_cons_self) (hB _ (List.mem_cons_of_mem _ List.mem_cons_self)) (hB _ (List.mem_cons_of_mem _ (List.mem_cons_of_mem _ List.mem_cons_self))) (hB _ (List.mem_cons_of_mem _ (List.mem_cons_of_mem _ (List.mem_cons_of_mem _ List.mem_cons_self)))) (hB _ (List.mem_cons_of_mem _ (List.mem_cons_of_mem _ (List.mem_cons_of_mem _ (List.mem_cons_of_mem _ List.mem_cons_self))))) (cvp 53 (x' := (4096 * (ρ 0) + (ρ 1))) (y' := (256 * (ρ 2) + 72)) (by show 0 + (4096 * ρ 0 + (1 * ρ 1 + 0)) = _; omega) (by show 72 + (256 * ρ 2 + 0) = _; omega) (hm _ List.mem_cons_self)) (cvp 47 (x' := ((ρ 2))) (y' := ((ρ 4) + 393216)) (by show 0 + (1 * ρ 2 + 0) = _; omega) (by show 393216 + (1 * ρ 4 + 0) = _; omega) (hm _ (List.mem_cons_of_mem _ List.mem_cons_self))) (cvp 45 (x' := ((ρ 2))) (y' := ((ρ 3))) (by show 0 + (1 * ρ 2 + 0) = _; omega) (by show 0 + (1 * ρ 3 + 0) = _; omega) (hm _ (List.mem_cons_of_mem _ (List.mem_cons_of_mem _ List.mem_cons_self)))) (by have h := hF _ List.mem_cons_self; have h : 0 ≤ (-37) + (1 * ρ 4 + 0) := h; omega) hG
  obtain ⟨k0, -⟩ := H
  exact ⟨_, List.mem_cons_self, ρ, fun _ _ => rfl, (okM_c (pvp 66 (by show 0 + (1 * ρ 3 + 0) = _; omega) (by show 4 + 0 = _; omega) k0) okM_n), okB_n, okF_n⟩
-- ex72
theorem cr_225 (M : pM) (s0 s1 s2 s3 s4 s5 : Int) (b0 : 0 ≤ s0 ∧ s0 ≤ 1900) (b1 : 0 ≤ s1 ∧ s1 ≤ 950) (b2 : 0 ≤ s2 ∧ s2 ≤ 1900) (b3 : 0 ≤ s3 ∧ s3 ≤ 1900) (b4 : 0 ≤ s4 ∧ s4 ≤ 9999) (b5 : 0 ≤ s5 ∧ s5 ≤ 36) (m0 : HP 53 (4096 * s0 + s1) (256 * s2 + 72) M) (m1 : HP 47 (s2) (s4 + 393216) M) (m2 : HP 46 (s2) (s3) M) (m3 : HP 79 (16 * s0 + 6) (s5) M) (f0 : 0 ≤ (s4 + (-1) * s5 - 1)) (f1 : 0 ≤ ((-1) * s4 + 36)) (hG : gI M) : (HP 53 (4096 * s0 + s1) (256 * s3 + 73) M ∧ HP 79 (16 * s0 + 8) (s4) M ∧ True) := by
  refine ⟨?_, ?_, trivial⟩
  · exact r_ex (K := 4) (j := 7) m0 m1 m2 ⟨by omega, by omega, by decide⟩ (by omega) (by decide) (fun s hs hE e => by
        have hp : s0.toNat = s.1 := by have := qat_p (P := s0) (l := s1) hs ⟨by omega, by omega, by omega⟩; omega
        have hu := q79 (P := s0) (i := 6) m3 ⟨by omega, by decide⟩ (by omega)
        rw [hp] at hu
        show qcN (qvl (tm M) s.1 6 + 1) 36 none (tK (tm M) (qps (tm M) s.1 8)) = none
        rw [e]
        exact qcN_x (by omega) (by omega))
  · exact r_va (P := s0) (l := s1) (K := 4) (j := 7) m0 m1 ⟨by omega, by omega, by omega⟩ ⟨by omega, by omega, by decide⟩ (by omega) (by omega)
theorem rul_225 : Rul r_225 := by
  refine ⟨fun _ ρ M hm hB hF hG => ?_, fun gi gv hg => (by cases hg)⟩
  have H := cr_225 M (ρ 0) (ρ 1) (ρ 2) (ρ 3) (ρ 4) (ρ 5) (hB _ List.mem_cons_self) (hB _ (List.mem_cons_of_mem _ List.mem_cons_self)) (hB _ (List.mem_cons_of_mem _ (List.mem_cons_of_mem _ List.mem_cons_self))) (hB _ (List.mem_cons_of_mem _ (List.mem_cons_of_mem _ (List.mem_cons_of_mem _ List.mem_cons_self)))) (hB _ (List.mem_cons_of_mem _ (List.mem_cons_of_mem _ (List.mem_cons_of_mem _ (List.mem_cons_of_mem _ List.mem_cons_self))))) (hB _ (List.mem_cons_of_mem _ (List.mem_cons_of_mem _ (List.mem_cons_of_mem _ (List.mem_cons_of_mem _ (List.mem_cons_of_mem _ List.mem_cons_self)))))) (cvp 53 (x' := (4096 * (ρ 0) + (ρ 1))) (y' := (256 * (ρ 2) + 72)) (by show 0 + (4096 * ρ 0 + (1 * ρ 1 + 0)) = _; omega) (by show 72 + (256 * ρ 2 + 0) = _; omega) (hm _ List.mem_cons_self)) (cvp 47 (x' := ((ρ 2))) (y' := ((ρ 4) + 393216)) (by show 0 + (1 * ρ 2 + 0) = _; omega) (by show 393216 + (1 * ρ 4 + 0) = _; omega) (hm _ (List.mem_cons_of_mem _ List.mem_cons_self))) (cvp 46 (x' := ((ρ 2))) (y' := ((ρ 3))) (by show 0 + (1 * ρ 2 + 0) = _; omega) (by show 0 + (1 * ρ 3 + 0) = _; omega) (hm _ (List.mem_cons_of_mem _ (List.mem_cons_of_mem _ List.mem_cons_self)))) (cvp 79 (x' := (16 * (ρ 0) + 6)) (y' := ((ρ 5))) (by show 6 + (16 * ρ 0 + 0) = _; omega) (by show 0 + (1 * ρ 5 + 0) = _; omega) (hm _ (List.mem_cons_of_mem _ (List.mem_cons_of_mem _ (List.mem_cons_of_mem _ List.mem_cons_self))))) (by have h := hF _ List.mem_cons_self; have h : 0 ≤ (-1) + (1 * ρ 4 + ((-1) * ρ 5 + 0)) := h; omega) (by have h := hF _ (List.mem_cons_of_mem _ List.mem_cons_self); have h : 0 ≤ 36 + ((-1) * ρ 4 + 0) := h; omega) hG
  obtain ⟨k0, k1, -⟩ := H
  exact ⟨_, List.mem_cons_self, ρ, fun _ _ => rfl, (okM_c (pvp 53 (by show 0 + (4096 * ρ 0 + (1 * ρ 1 + 0)) = _; omega) (by show 73 + (256 * ρ 3 + 0) = _; omega) k0) (okM_c (pvp 79 (by show 8 + (16 * ρ 0 + 0) = _; omega) (by show 0 + (1 * ρ 4 + 0) = _; omega) k1) okM_n)), okB_n, okF_n⟩
-- ln4
theorem cr_226 (M : pM) (s0 s1 s2 : Int) (b0 : 0 ≤ s0 ∧ s0 ≤ 1900) (b1 : 0 ≤ s1 ∧ s1 ≤ 950) (b2 : 0 ≤ s2 ∧ s2 ≤ 1900) (m0 : HP 53 (4096 * s0 + s1) (256 * s2 + 73) M) (hG : gI M) : (HP 89 (4096 * s0 + s1) (s2) M ∧ True) := by
  obtain ⟨s, h1, h2⟩ := ex_o (K := 4) (j := 8) (a := s2) (Eq.mp hp_53 m0) ⟨by omega, by omega, by decide, by decide⟩
  exact ⟨Eq.mpr hp_89 ⟨s, 4, h1, ⟨h2.2.2.1, h2.2.2.2.1⟩, h2.2.2.2.2⟩, trivial⟩
theorem rul_226 : Rul r_226 := by
  refine ⟨fun _ ρ M hm hB hF hG => ?_, fun gi gv hg => (by cases hg)⟩
  have H := cr_226 M (ρ 0) (ρ 1) (ρ 2) (hB _ List.mem_cons_self) (hB _ (List.mem_cons_of_mem _ List.mem_cons_self)) (hB _ (List.mem_cons_of_mem _ (List.mem_cons_of_mem _ List.mem_cons_self))) (cvp 53 (x' := (4096 * (ρ 0) + (ρ 1))) (y' := (256 * (ρ 2) + 73)) (by show 0 + (4096 * ρ 0 + (1 * ρ 1 + 0)) = _; omega) (by show 73 + (256 * ρ 2 + 0) = _; omega) (hm _ List.mem_cons_self)) hG
  obtain ⟨k0, -⟩ := H
  exact ⟨_, List.mem_cons_self, ρ, fun _ _ => rfl, (okM_c (pvp 89 (by show 0 + (4096 * ρ 0 + (1 * ρ 1 + 0)) = _; omega) (by show 0 + (1 * ρ 2 + 0) = _; omega) k0) okM_n), okB_n, okF_n⟩
-- fk129
theorem cr_227 (M : pM) (s0 s1 s2 s3 s4 : Int) (b0 : 0 ≤ s0 ∧ s0 ≤ 1900) (b1 : 0 ≤ s1 ∧ s1 ≤ 950) (b2 : 0 ≤ s2 ∧ s2 ≤ 1900) (b3 : 0 ≤ s3 ∧ s3 ≤ 1900) (b4 : 256 ≤ s4 ∧ s4 ≤ 600000) (m0 : HP 53 (4096 * s0 + s1) (256 * s2 + 129) M) (m1 : HP 47 (s2) (s4) M) (m2 : HP 45 (s2) (s3) M) (f0 : 0 ≤ ((-1) * s4 + 393215)) (hG : gI M) : (HP 66 (s3) (2 : Int) M ∧ True) := by
  refine ⟨r_fl (K := 8) (j := 0) m0 m1 m2 ⟨by omega, by omega, by decide⟩ (fun s hs hE e => ?_), trivial⟩
  show qcN 0 7 none (tK (tm M) (qps (tm M) s.1 1)) = some 2
  rw [e]
  exact qcN_2 (by omega) (by omega)
theorem rul_227 : Rul r_227 := by
  refine ⟨fun _ ρ M hm hB hF hG => ?_, fun gi gv hg => (by cases hg)⟩
  have H := cr_227 M (ρ 0) (ρ 1) (ρ 2) (ρ 3) (ρ 4) (hB _ List.mem_cons_self) (hB _ (List.mem_cons_of_mem _ List.mem_cons_self)) (hB _ (List.mem_cons_of_mem _ (List.mem_cons_of_mem _ List.mem_cons_self))) (hB _ (List.mem_cons_of_mem _ (List.mem_cons_of_mem _ (List.mem_cons_of_mem _ List.mem_cons_self)))) (hB _ (List.mem_cons_of_mem _ (List.mem_cons_of_mem _ (List.mem_cons_of_mem _ (List.mem_cons_of_mem _ List.mem_cons_self))))) (cvp 53 (x' := (4096 * (ρ 0) + (ρ 1))) (y' := (256 * (ρ 2) + 129)) (by show 0 + (4096 * ρ 0 + (1 * ρ 1 + 0)) = _; omega) (by show 129 + (256 * ρ 2 + 0) = _; omega) (hm _ List.mem_cons_self)) (cvp 47 (x' := ((ρ 2))) (y' := ((ρ 4))) (by show 0 + (1 * ρ 2 + 0) = _; omega) (by show 0 + (1 * ρ 4 + 0) = _; omega) (hm _ (List.mem_cons_of_mem _ List.mem_cons_self))) (cvp 45 (x' := ((ρ 2))) (y' := ((ρ 3))) (by show 0 + (1 * ρ 2 + 0) = _; omega) (by show 0 + (1 * ρ 3 + 0) = _; omega) (hm _ (List.mem_cons_of_mem _ (List.mem_cons_of_mem _ List.mem_cons_self)))) (by have h := hF _ List.mem_cons_self; have h : 0 ≤ 393215 + ((-1) * ρ 4 + 0) := h; omega) hG
  obtain ⟨k0, -⟩ := H
  exact ⟨_, List.mem_cons_self, ρ, fun _ _ => rfl, (okM_c (pvp 66 (by show 0 + (1 * ρ 3 + 0) = _; omega) (by show 2 + 0 = _; omega) k0) okM_n), okB_n, okF_n⟩
-- fl129
theorem cr_228 (M : pM) (s0 s1 s2 s3 s4 : Int) (b0 : 0 ≤ s0 ∧ s0 ≤ 1900) (b1 : 0 ≤ s1 ∧ s1 ≤ 950) (b2 : 0 ≤ s2 ∧ s2 ≤ 1900) (b3 : 0 ≤ s3 ∧ s3 ≤ 1900) (b4 : 256 ≤ s4 ∧ s4 ≤ 600000) (m0 : HP 53 (4096 * s0 + s1) (256 * s2 + 129) M) (m1 : HP 47 (s2) (s4) M) (m2 : HP 45 (s2) (s3) M) (f0 : 0 ≤ (s4 - 403216)) (hG : gI M) : (HP 66 (s3) (2 : Int) M ∧ True) := by
  refine ⟨r_fl (K := 8) (j := 0) m0 m1 m2 ⟨by omega, by omega, by decide⟩ (fun s hs hE e => ?_), trivial⟩
  show qcN 0 7 none (tK (tm M) (qps (tm M) s.1 1)) = some 2
  rw [e]
  exact qcN_2 (by omega) (by omega)
theorem rul_228 : Rul r_228 := by
  refine ⟨fun _ ρ M hm hB hF hG => ?_, fun gi gv hg => (by cases hg)⟩
  have H := cr_228 M (ρ 0) (ρ 1) (ρ 2) (ρ 3) (ρ 4) (hB _ List.mem_cons_self) (hB _ (List.mem_cons_of_mem _ List.mem_cons_self)) (hB _ (List.mem_cons_of_mem _ (List.mem_cons_of_mem _ List.mem_cons_self))) (hB _ (List.mem_cons_of_mem _ (List.mem_cons_of_mem _ (List.mem_cons_of_mem _ List.mem_cons_self)))) (hB _ (List.mem_cons_of_mem _ (List.mem_cons_of_mem _ (List.mem_cons_of_mem _ (List.mem_cons_of_mem _ List.mem_cons_self))))) (cvp 53 (x' := (4096 * (ρ 0) + (ρ 1))) (y' := (256 * (ρ 2) + 129)) (by show 0 + (4096 * ρ 0 + (1 * ρ 1 + 0)) = _; omega) (by show 129 + (256 * ρ 2 + 0) = _; omega) (hm _ List.mem_cons_self)) (cvp 47 (x' := ((ρ 2))) (y' := ((ρ 4))) (by show 0 + (1 * ρ 2 + 0) = _; omega) (by show 0 + (1 * ρ 4 + 0) = _; omega) (hm _ (List.mem_cons_of_mem _ List.mem_cons_self))) (cvp 45 (x' := ((ρ 2))) (y' := ((ρ 3))) (by show 0 + (1 * ρ 2 + 0) = _; omega) (by show 0 + (1 * ρ 3 + 0) = _; omega) (hm _ (List.mem_cons_of_mem _ (List.mem_cons_of_mem _ List.mem_cons_self)))) (by have h := hF _ List.mem_cons_self; have h : 0 ≤ (-403216) + (1 * ρ 4 + 0) := h; omega) hG
  obtain ⟨k0, -⟩ := H
  exact ⟨_, List.mem_cons_self, ρ, fun _ _ => rfl, (okM_c (pvp 66 (by show 0 + (1 * ρ 3 + 0) = _; omega) (by show 2 + 0 = _; omega) k0) okM_n), okB_n, okF_n⟩
-- fn129
theorem cr_229 (M : pM) (s0 s1 s2 s3 s4 : Int) (b0 : 0 ≤ s0 ∧ s0 ≤ 1900) (b1 : 0 ≤ s1 ∧ s1 ≤ 950) (b2 : 0 ≤ s2 ∧ s2 ≤ 1900) (b3 : 0 ≤ s3 ∧ s3 ≤ 1900) (b4 : 0 ≤ s4 ∧ s4 ≤ 9999) (m0 : HP 53 (4096 * s0 + s1) (256 * s2 + 129) M) (m1 : HP 47 (s2) (s4 + 393216) M) (m2 : HP 45 (s2) (s3) M) (f0 : 0 ≤ (s4 - 8)) (hG : gI M) : (HP 66 (s3) (4 : Int) M ∧ True) := by
  refine ⟨r_fl (K := 8) (j := 0) m0 m1 m2 ⟨by omega, by omega, by decide⟩ (fun s hs hE e => ?_), trivial⟩
  show qcN 0 7 none (tK (tm M) (qps (tm M) s.1 1)) = some 4
  rw [e]
  exact qcN_4 (by omega) (Or.inr (by omega))
theorem rul_229 : Rul r_229 := by
  refine ⟨fun _ ρ M hm hB hF hG => ?_, fun gi gv hg => (by cases hg)⟩
  have H := cr_229 M (ρ 0) (ρ 1) (ρ 2) (ρ 3) (ρ 4) (hB _ List.mem_cons_self) (hB _ (List.mem_cons_of_mem _ List.mem_cons_self)) (hB _ (List.mem_cons_of_mem _ (List.mem_cons_of_mem _ List.mem_cons_self))) (hB _ (List.mem_cons_of_mem _ (List.mem_cons_of_mem _ (List.mem_cons_of_mem _ List.mem_cons_self)))) (hB _ (List.mem_cons_of_mem _ (List.mem_cons_of_mem _ (List.mem_cons_of_mem _ (List.mem_cons_of_mem _ List.mem_cons_self))))) (cvp 53 (x' := (4096 * (ρ 0) + (ρ 1))) (y' := (256 * (ρ 2) + 129)) (by show 0 + (4096 * ρ 0 + (1 * ρ 1 + 0)) = _; omega) (by show 129 + (256 * ρ 2 + 0) = _; omega) (hm _ List.mem_cons_self)) (cvp 47 (x' := ((ρ 2))) (y' := ((ρ 4) + 393216)) (by show 0 + (1 * ρ 2 + 0) = _; omega) (by show 393216 + (1 * ρ 4 + 0) = _; omega) (hm _ (List.mem_cons_of_mem _ List.mem_cons_self))) (cvp 45 (x' := ((ρ 2))) (y' := ((ρ 3))) (by show 0 + (1 * ρ 2 + 0) = _; omega) (by show 0 + (1 * ρ 3 + 0) = _; omega) (hm _ (List.mem_cons_of_mem _ (List.mem_cons_of_mem _ List.mem_cons_self)))) (by have h := hF _ List.mem_cons_self; have h : 0 ≤ (-8) + (1 * ρ 4 + 0) := h; omega) hG
  obtain ⟨k0, -⟩ := H
  exact ⟨_, List.mem_cons_self, ρ, fun _ _ => rfl, (okM_c (pvp 66 (by show 0 + (1 * ρ 3 + 0) = _; omega) (by show 4 + 0 = _; omega) k0) okM_n), okB_n, okF_n⟩
-- ex129
theorem cr_230 (M : pM) (s0 s1 s2 s3 s4 : Int) (b0 : 0 ≤ s0 ∧ s0 ≤ 1900) (b1 : 0 ≤ s1 ∧ s1 ≤ 950) (b2 : 0 ≤ s2 ∧ s2 ≤ 1900) (b3 : 0 ≤ s3 ∧ s3 ≤ 1900) (b4 : 0 ≤ s4 ∧ s4 ≤ 9999) (m0 : HP 53 (4096 * s0 + s1) (256 * s2 + 129) M) (m1 : HP 47 (s2) (s4 + 393216) M) (m2 : HP 46 (s2) (s3) M) (f0 : 0 ≤ (s4)) (f1 : 0 ≤ ((-1) * s4 + 7)) (hG : gI M) : (HP 53 (4096 * s0 + s1) (256 * s3 + 130) M ∧ HP 79 (16 * s0 + 1) (s4) M ∧ True) := by
  refine ⟨?_, ?_, trivial⟩
  · exact r_ex (K := 8) (j := 0) m0 m1 m2 ⟨by omega, by omega, by decide⟩ (by omega) (by decide) (fun s hs hE e => by
        show qcN 0 7 none (tK (tm M) (qps (tm M) s.1 1)) = none
        rw [e]
        exact qcN_x (by omega) (by omega))
  · exact r_va (P := s0) (l := s1) (K := 8) (j := 0) m0 m1 ⟨by omega, by omega, by omega⟩ ⟨by omega, by omega, by decide⟩ (by omega) (by omega)
theorem rul_230 : Rul r_230 := by
  refine ⟨fun _ ρ M hm hB hF hG => ?_, fun gi gv hg => (by cases hg)⟩
  have H := cr_230 M (ρ 0) (ρ 1) (ρ 2) (ρ 3) (ρ 4) (hB _ List.mem_cons_self) (hB _ (List.mem_cons_of_mem _ List.mem_cons_self)) (hB _ (List.mem_cons_of_mem _ (List.mem_cons_of_mem _ List.mem_cons_self))) (hB _ (List.mem_cons_of_mem _ (List.mem_cons_of_mem _ (List.mem_cons_of_mem _ List.mem_cons_self)))) (hB _ (List.mem_cons_of_mem _ (List.mem_cons_of_mem _ (List.mem_cons_of_mem _ (List.mem_cons_of_mem _ List.mem_cons_self))))) (cvp 53 (x' := (4096 * (ρ 0) + (ρ 1))) (y' := (256 * (ρ 2) + 129)) (by show 0 + (4096 * ρ 0 + (1 * ρ 1 + 0)) = _; omega) (by show 129 + (256 * ρ 2 + 0) = _; omega) (hm _ List.mem_cons_self)) (cvp 47 (x' := ((ρ 2))) (y' := ((ρ 4) + 393216)) (by show 0 + (1 * ρ 2 + 0) = _; omega) (by show 393216 + (1 * ρ 4 + 0) = _; omega) (hm _ (List.mem_cons_of_mem _ List.mem_cons_self))) (cvp 46 (x' := ((ρ 2))) (y' := ((ρ 3))) (by show 0 + (1 * ρ 2 + 0) = _; omega) (by show 0 + (1 * ρ 3 + 0) = _; omega) (hm _ (List.mem_cons_of_mem _ (List.mem_cons_of_mem _ List.mem_cons_self)))) (by have h := hF _ List.mem_cons_self; have h : 0 ≤ 0 + (1 * ρ 4 + 0) := h; omega) (by have h := hF _ (List.mem_cons_of_mem _ List.mem_cons_self); have h : 0 ≤ 7 + ((-1) * ρ 4 + 0) := h; omega) hG
  obtain ⟨k0, k1, -⟩ := H
  exact ⟨_, List.mem_cons_self, ρ, fun _ _ => rfl, (okM_c (pvp 53 (by show 0 + (4096 * ρ 0 + (1 * ρ 1 + 0)) = _; omega) (by show 130 + (256 * ρ 3 + 0) = _; omega) k0) (okM_c (pvp 79 (by show 1 + (16 * ρ 0 + 0) = _; omega) (by show 0 + (1 * ρ 4 + 0) = _; omega) k1) okM_n)), okB_n, okF_n⟩
-- fk130
theorem cr_231 (M : pM) (s0 s1 s2 s3 s4 : Int) (b0 : 0 ≤ s0 ∧ s0 ≤ 1900) (b1 : 0 ≤ s1 ∧ s1 ≤ 950) (b2 : 0 ≤ s2 ∧ s2 ≤ 1900) (b3 : 0 ≤ s3 ∧ s3 ≤ 1900) (b4 : 256 ≤ s4 ∧ s4 ≤ 600000) (m0 : HP 53 (4096 * s0 + s1) (256 * s2 + 130) M) (m1 : HP 47 (s2) (s4) M) (m2 : HP 45 (s2) (s3) M) (f0 : 0 ≤ ((-1) * s4 + 393215)) (hG : gI M) : (HP 66 (s3) (2 : Int) M ∧ True) := by
  refine ⟨r_fl (K := 8) (j := 1) m0 m1 m2 ⟨by omega, by omega, by decide⟩ (fun s hs hE e => ?_), trivial⟩
  show qcN 0 7 (qtd (s.2 17 (qvl (tm M) s.1 1 + 8 * qvl (tm M) s.1 2).toNat)) (tK (tm M) (qps (tm M) s.1 2)) = some 2
  rw [e]
  exact qcN_2 (by omega) (by omega)
theorem rul_231 : Rul r_231 := by
  refine ⟨fun _ ρ M hm hB hF hG => ?_, fun gi gv hg => (by cases hg)⟩
  have H := cr_231 M (ρ 0) (ρ 1) (ρ 2) (ρ 3) (ρ 4) (hB _ List.mem_cons_self) (hB _ (List.mem_cons_of_mem _ List.mem_cons_self)) (hB _ (List.mem_cons_of_mem _ (List.mem_cons_of_mem _ List.mem_cons_self))) (hB _ (List.mem_cons_of_mem _ (List.mem_cons_of_mem _ (List.mem_cons_of_mem _ List.mem_cons_self)))) (hB _ (List.mem_cons_of_mem _ (List.mem_cons_of_mem _ (List.mem_cons_of_mem _ (List.mem_cons_of_mem _ List.mem_cons_self))))) (cvp 53 (x' := (4096 * (ρ 0) + (ρ 1))) (y' := (256 * (ρ 2) + 130)) (by show 0 + (4096 * ρ 0 + (1 * ρ 1 + 0)) = _; omega) (by show 130 + (256 * ρ 2 + 0) = _; omega) (hm _ List.mem_cons_self)) (cvp 47 (x' := ((ρ 2))) (y' := ((ρ 4))) (by show 0 + (1 * ρ 2 + 0) = _; omega) (by show 0 + (1 * ρ 4 + 0) = _; omega) (hm _ (List.mem_cons_of_mem _ List.mem_cons_self))) (cvp 45 (x' := ((ρ 2))) (y' := ((ρ 3))) (by show 0 + (1 * ρ 2 + 0) = _; omega) (by show 0 + (1 * ρ 3 + 0) = _; omega) (hm _ (List.mem_cons_of_mem _ (List.mem_cons_of_mem _ List.mem_cons_self)))) (by have h := hF _ List.mem_cons_self; have h : 0 ≤ 393215 + ((-1) * ρ 4 + 0) := h; omega) hG
  obtain ⟨k0, -⟩ := H
  exact ⟨_, List.mem_cons_self, ρ, fun _ _ => rfl, (okM_c (pvp 66 (by show 0 + (1 * ρ 3 + 0) = _; omega) (by show 2 + 0 = _; omega) k0) okM_n), okB_n, okF_n⟩
-- fl130
theorem cr_232 (M : pM) (s0 s1 s2 s3 s4 : Int) (b0 : 0 ≤ s0 ∧ s0 ≤ 1900) (b1 : 0 ≤ s1 ∧ s1 ≤ 950) (b2 : 0 ≤ s2 ∧ s2 ≤ 1900) (b3 : 0 ≤ s3 ∧ s3 ≤ 1900) (b4 : 256 ≤ s4 ∧ s4 ≤ 600000) (m0 : HP 53 (4096 * s0 + s1) (256 * s2 + 130) M) (m1 : HP 47 (s2) (s4) M) (m2 : HP 45 (s2) (s3) M) (f0 : 0 ≤ (s4 - 403216)) (hG : gI M) : (HP 66 (s3) (2 : Int) M ∧ True) := by
  refine ⟨r_fl (K := 8) (j := 1) m0 m1 m2 ⟨by omega, by omega, by decide⟩ (fun s hs hE e => ?_), trivial⟩
  show qcN 0 7 (qtd (s.2 17 (qvl (tm M) s.1 1 + 8 * qvl (tm M) s.1 2).toNat)) (tK (tm M) (qps (tm M) s.1 2)) = some 2
  rw [e]
  exact qcN_2 (by omega) (by omega)
theorem rul_232 : Rul r_232 := by
  refine ⟨fun _ ρ M hm hB hF hG => ?_, fun gi gv hg => (by cases hg)⟩
  have H := cr_232 M (ρ 0) (ρ 1) (ρ 2) (ρ 3) (ρ 4) (hB _ List.mem_cons_self) (hB _ (List.mem_cons_of_mem _ List.mem_cons_self)) (hB _ (List.mem_cons_of_mem _ (List.mem_cons_of_mem _ List.mem_cons_self))) (hB _ (List.mem_cons_of_mem _ (List.mem_cons_of_mem _ (List.mem_cons_of_mem _ List.mem_cons_self)))) (hB _ (List.mem_cons_of_mem _ (List.mem_cons_of_mem _ (List.mem_cons_of_mem _ (List.mem_cons_of_mem _ List.mem_cons_self))))) (cvp 53 (x' := (4096 * (ρ 0) + (ρ 1))) (y' := (256 * (ρ 2) + 130)) (by show 0 + (4096 * ρ 0 + (1 * ρ 1 + 0)) = _; omega) (by show 130 + (256 * ρ 2 + 0) = _; omega) (hm _ List.mem_cons_self)) (cvp 47 (x' := ((ρ 2))) (y' := ((ρ 4))) (by show 0 + (1 * ρ 2 + 0) = _; omega) (by show 0 + (1 * ρ 4 + 0) = _; omega) (hm _ (List.mem_cons_of_mem _ List.mem_cons_self))) (cvp 45 (x' := ((ρ 2))) (y' := ((ρ 3))) (by show 0 + (1 * ρ 2 + 0) = _; omega) (by show 0 + (1 * ρ 3 + 0) = _; omega) (hm _ (List.mem_cons_of_mem _ (List.mem_cons_of_mem _ List.mem_cons_self)))) (by have h := hF _ List.mem_cons_self; have h : 0 ≤ (-403216) + (1 * ρ 4 + 0) := h; omega) hG
  obtain ⟨k0, -⟩ := H
  exact ⟨_, List.mem_cons_self, ρ, fun _ _ => rfl, (okM_c (pvp 66 (by show 0 + (1 * ρ 3 + 0) = _; omega) (by show 2 + 0 = _; omega) k0) okM_n), okB_n, okF_n⟩
-- fn130
theorem cr_233 (M : pM) (s0 s1 s2 s3 s4 : Int) (b0 : 0 ≤ s0 ∧ s0 ≤ 1900) (b1 : 0 ≤ s1 ∧ s1 ≤ 950) (b2 : 0 ≤ s2 ∧ s2 ≤ 1900) (b3 : 0 ≤ s3 ∧ s3 ≤ 1900) (b4 : 0 ≤ s4 ∧ s4 ≤ 9999) (m0 : HP 53 (4096 * s0 + s1) (256 * s2 + 130) M) (m1 : HP 47 (s2) (s4 + 393216) M) (m2 : HP 45 (s2) (s3) M) (f0 : 0 ≤ (s4 - 8)) (hG : gI M) : (HP 66 (s3) (4 : Int) M ∧ True) := by
  refine ⟨r_fl (K := 8) (j := 1) m0 m1 m2 ⟨by omega, by omega, by decide⟩ (fun s hs hE e => ?_), trivial⟩
  show qcN 0 7 (qtd (s.2 17 (qvl (tm M) s.1 1 + 8 * qvl (tm M) s.1 2).toNat)) (tK (tm M) (qps (tm M) s.1 2)) = some 4
  rw [e]
  exact qcN_4 (by omega) (Or.inr (by omega))
theorem rul_233 : Rul r_233 := by
  refine ⟨fun _ ρ M hm hB hF hG => ?_, fun gi gv hg => (by cases hg)⟩
  have H := cr_233 M (ρ 0) (ρ 1) (ρ 2) (ρ 3) (ρ 4) (hB _ List.mem_cons_self) (hB _ (List.mem_cons_of_mem _ List.mem_cons_self)) (hB _ (List.mem_cons_of_mem _ (List.mem_cons_of_mem _ List.mem_cons_self))) (hB _ (List.mem_cons_of_mem _ (List.mem_cons_of_mem _ (List.mem_cons_of_mem _ List.mem_cons_self)))) (hB _ (List.mem_cons_of_mem _ (List.mem_cons_of_mem _ (List.mem_cons_of_mem _ (List.mem_cons_of_mem _ List.mem_cons_self))))) (cvp 53 (x' := (4096 * (ρ 0) + (ρ 1))) (y' := (256 * (ρ 2) + 130)) (by show 0 + (4096 * ρ 0 + (1 * ρ 1 + 0)) = _; omega) (by show 130 + (256 * ρ 2 + 0) = _; omega) (hm _ List.mem_cons_self)) (cvp 47 (x' := ((ρ 2))) (y' := ((ρ 4) + 393216)) (by show 0 + (1 * ρ 2 + 0) = _; omega) (by show 393216 + (1 * ρ 4 + 0) = _; omega) (hm _ (List.mem_cons_of_mem _ List.mem_cons_self))) (cvp 45 (x' := ((ρ 2))) (y' := ((ρ 3))) (by show 0 + (1 * ρ 2 + 0) = _; omega) (by show 0 + (1 * ρ 3 + 0) = _; omega) (hm _ (List.mem_cons_of_mem _ (List.mem_cons_of_mem _ List.mem_cons_self)))) (by have h := hF _ List.mem_cons_self; have h : 0 ≤ (-8) + (1 * ρ 4 + 0) := h; omega) hG
  obtain ⟨k0, -⟩ := H
  exact ⟨_, List.mem_cons_self, ρ, fun _ _ => rfl, (okM_c (pvp 66 (by show 0 + (1 * ρ 3 + 0) = _; omega) (by show 4 + 0 = _; omega) k0) okM_n), okB_n, okF_n⟩
-- ln8
theorem cr_234 (M : pM) (s0 s1 s2 : Int) (b0 : 0 ≤ s0 ∧ s0 ≤ 1900) (b1 : 0 ≤ s1 ∧ s1 ≤ 950) (b2 : 0 ≤ s2 ∧ s2 ≤ 1900) (m0 : HP 53 (4096 * s0 + s1) (256 * s2 + 131) M) (hG : gI M) : (HP 89 (4096 * s0 + s1) (s2) M ∧ True) := by
  obtain ⟨s, h1, h2⟩ := ex_o (K := 8) (j := 2) (a := s2) (Eq.mp hp_53 m0) ⟨by omega, by omega, by decide, by decide⟩
  exact ⟨Eq.mpr hp_89 ⟨s, 8, h1, ⟨h2.2.2.1, h2.2.2.2.1⟩, h2.2.2.2.2⟩, trivial⟩
theorem rul_234 : Rul r_234 := by
  refine ⟨fun _ ρ M hm hB hF hG => ?_, fun gi gv hg => (by cases hg)⟩
  have H := cr_234 M (ρ 0) (ρ 1) (ρ 2) (hB _ List.mem_cons_self) (hB _ (List.mem_cons_of_mem _ List.mem_cons_self)) (hB _ (List.mem_cons_of_mem _ (List.mem_cons_of_mem _ List.mem_cons_self))) (cvp 53 (x' := (4096 * (ρ 0) + (ρ 1))) (y' := (256 * (ρ 2) + 131)) (by show 0 + (4096 * ρ 0 + (1 * ρ 1 + 0)) = _; omega) (by show 131 + (256 * ρ 2 + 0) = _; omega) (hm _ List.mem_cons_self)) hG
  obtain ⟨k0, -⟩ := H
  exact ⟨_, List.mem_cons_self, ρ, fun _ _ => rfl, (okM_c (pvp 89 (by show 0 + (4096 * ρ 0 + (1 * ρ 1 + 0)) = _; omega) (by show 0 + (1 * ρ 2 + 0) = _; omega) k0) okM_n), okB_n, okF_n⟩
-- fk145
theorem cr_235 (M : pM) (s0 s1 s2 s3 s4 : Int) (b0 : 0 ≤ s0 ∧ s0 ≤ 1900) (b1 : 0 ≤ s1 ∧ s1 ≤ 950) (b2 : 0 ≤ s2 ∧ s2 ≤ 1900) (b3 : 0 ≤ s3 ∧ s3 ≤ 1900) (b4 : 256 ≤ s4 ∧ s4 ≤ 600000) (m0 : HP 53 (4096 * s0 + s1) (256 * s2 + 145) M) (m1 : HP 47 (s2) (s4) M) (m2 : HP 45 (s2) (s3) M) (f0 : 0 ≤ ((-1) * s4 + 393215)) (hG : gI M) : (HP 66 (s3) (2 : Int) M ∧ True) := by
  refine ⟨r_fl (K := 9) (j := 0) m0 m1 m2 ⟨by omega, by omega, by decide⟩ (fun s hs hE e => ?_), trivial⟩
  show qcN 0 7 none (tK (tm M) (qps (tm M) s.1 1)) = some 2
  rw [e]
  exact qcN_2 (by omega) (by omega)
theorem rul_235 : Rul r_235 := by
  refine ⟨fun _ ρ M hm hB hF hG => ?_, fun gi gv hg => (by cases hg)⟩
  have H := cr_235 M (ρ 0) (ρ 1) (ρ 2) (ρ 3) (ρ 4) (hB _ List.mem_cons_self) (hB _ (List.mem_cons_of_mem _ List.mem_cons_self)) (hB _ (List.mem_cons_of_mem _ (List.mem_cons_of_mem _ List.mem_cons_self))) (hB _ (List.mem_cons_of_mem _ (List.mem_cons_of_mem _ (List.mem_cons_of_mem _ List.mem_cons_self)))) (hB _ (List.mem_cons_of_mem _ (List.mem_cons_of_mem _ (List.mem_cons_of_mem _ (List.mem_cons_of_mem _ List.mem_cons_self))))) (cvp 53 (x' := (4096 * (ρ 0) + (ρ 1))) (y' := (256 * (ρ 2) + 145)) (by show 0 + (4096 * ρ 0 + (1 * ρ 1 + 0)) = _; omega) (by show 145 + (256 * ρ 2 + 0) = _; omega) (hm _ List.mem_cons_self)) (cvp 47 (x' := ((ρ 2))) (y' := ((ρ 4))) (by show 0 + (1 * ρ 2 + 0) = _; omega) (by show 0 + (1 * ρ 4 + 0) = _; omega) (hm _ (List.mem_cons_of_mem _ List.mem_cons_self))) (cvp 45 (x' := ((ρ 2))) (y' := ((ρ 3))) (by show 0 + (1 * ρ 2 + 0) = _; omega) (by show 0 + (1 * ρ 3 + 0) = _; omega) (hm _ (List.mem_cons_of_mem _ (List.mem_cons_of_mem _ List.mem_cons_self)))) (by have h := hF _ List.mem_cons_self; have h : 0 ≤ 393215 + ((-1) * ρ 4 + 0) := h; omega) hG
  obtain ⟨k0, -⟩ := H
  exact ⟨_, List.mem_cons_self, ρ, fun _ _ => rfl, (okM_c (pvp 66 (by show 0 + (1 * ρ 3 + 0) = _; omega) (by show 2 + 0 = _; omega) k0) okM_n), okB_n, okF_n⟩
-- fl145
theorem cr_236 (M : pM) (s0 s1 s2 s3 s4 : Int) (b0 : 0 ≤ s0 ∧ s0 ≤ 1900) (b1 : 0 ≤ s1 ∧ s1 ≤ 950) (b2 : 0 ≤ s2 ∧ s2 ≤ 1900) (b3 : 0 ≤ s3 ∧ s3 ≤ 1900) (b4 : 256 ≤ s4 ∧ s4 ≤ 600000) (m0 : HP 53 (4096 * s0 + s1) (256 * s2 + 145) M) (m1 : HP 47 (s2) (s4) M) (m2 : HP 45 (s2) (s3) M) (f0 : 0 ≤ (s4 - 403216)) (hG : gI M) : (HP 66 (s3) (2 : Int) M ∧ True) := by
  refine ⟨r_fl (K := 9) (j := 0) m0 m1 m2 ⟨by omega, by omega, by decide⟩ (fun s hs hE e => ?_), trivial⟩
  show qcN 0 7 none (tK (tm M) (qps (tm M) s.1 1)) = some 2
  rw [e]
  exact qcN_2 (by omega) (by omega)
theorem rul_236 : Rul r_236 := by
  refine ⟨fun _ ρ M hm hB hF hG => ?_, fun gi gv hg => (by cases hg)⟩
  have H := cr_236 M (ρ 0) (ρ 1) (ρ 2) (ρ 3) (ρ 4) (hB _ List.mem_cons_self) (hB _ (List.mem_cons_of_mem _ List.mem_cons_self)) (hB _ (List.mem_cons_of_mem _ (List.mem_cons_of_mem _ List.mem_cons_self))) (hB _ (List.mem_cons_of_mem _ (List.mem_cons_of_mem _ (List.mem_cons_of_mem _ List.mem_cons_self)))) (hB _ (List.mem_cons_of_mem _ (List.mem_cons_of_mem _ (List.mem_cons_of_mem _ (List.mem_cons_of_mem _ List.mem_cons_self))))) (cvp 53 (x' := (4096 * (ρ 0) + (ρ 1))) (y' := (256 * (ρ 2) + 145)) (by show 0 + (4096 * ρ 0 + (1 * ρ 1 + 0)) = _; omega) (by show 145 + (256 * ρ 2 + 0) = _; omega) (hm _ List.mem_cons_self)) (cvp 47 (x' := ((ρ 2))) (y' := ((ρ 4))) (by show 0 + (1 * ρ 2 + 0) = _; omega) (by show 0 + (1 * ρ 4 + 0) = _; omega) (hm _ (List.mem_cons_of_mem _ List.mem_cons_self))) (cvp 45 (x' := ((ρ 2))) (y' := ((ρ 3))) (by show 0 + (1 * ρ 2 + 0) = _; omega) (by show 0 + (1 * ρ 3 + 0) = _; omega) (hm _ (List.mem_cons_of_mem _ (List.mem_cons_of_mem _ List.mem_cons_self)))) (by have h := hF _ List.mem_cons_self; have h : 0 ≤ (-403216) + (1 * ρ 4 + 0) := h; omega) hG
  obtain ⟨k0, -⟩ := H
  exact ⟨_, List.mem_cons_self, ρ, fun _ _ => rfl, (okM_c (pvp 66 (by show 0 + (1 * ρ 3 + 0) = _; omega) (by show 2 + 0 = _; omega) k0) okM_n), okB_n, okF_n⟩
-- fn145
theorem cr_237 (M : pM) (s0 s1 s2 s3 s4 : Int) (b0 : 0 ≤ s0 ∧ s0 ≤ 1900) (b1 : 0 ≤ s1 ∧ s1 ≤ 950) (b2 : 0 ≤ s2 ∧ s2 ≤ 1900) (b3 : 0 ≤ s3 ∧ s3 ≤ 1900) (b4 : 0 ≤ s4 ∧ s4 ≤ 9999) (m0 : HP 53 (4096 * s0 + s1) (256 * s2 + 145) M) (m1 : HP 47 (s2) (s4 + 393216) M) (m2 : HP 45 (s2) (s3) M) (f0 : 0 ≤ (s4 - 8)) (hG : gI M) : (HP 66 (s3) (4 : Int) M ∧ True) := by
  refine ⟨r_fl (K := 9) (j := 0) m0 m1 m2 ⟨by omega, by omega, by decide⟩ (fun s hs hE e => ?_), trivial⟩
  show qcN 0 7 none (tK (tm M) (qps (tm M) s.1 1)) = some 4
  rw [e]
  exact qcN_4 (by omega) (Or.inr (by omega))
theorem rul_237 : Rul r_237 := by
  refine ⟨fun _ ρ M hm hB hF hG => ?_, fun gi gv hg => (by cases hg)⟩
  have H := cr_237 M (ρ 0) (ρ 1) (ρ 2) (ρ 3) (ρ 4) (hB _ List.mem_cons_self) (hB _ (List.mem_cons_of_mem _ List.mem_cons_self)) (hB _ (List.mem_cons_of_mem _ (List.mem_cons_of_mem _ List.mem_cons_self))) (hB _ (List.mem_cons_of_mem _ (List.mem_cons_of_mem _ (List.mem_cons_of_mem _ List.mem_cons_self)))) (hB _ (List.mem_cons_of_mem _ (List.mem_cons_of_mem _ (List.mem_cons_of_mem _ (List.mem_cons_of_mem _ List.mem_cons_self))))) (cvp 53 (x' := (4096 * (ρ 0) + (ρ 1))) (y' := (256 * (ρ 2) + 145)) (by show 0 + (4096 * ρ 0 + (1 * ρ 1 + 0)) = _; omega) (by show 145 + (256 * ρ 2 + 0) = _; omega) (hm _ List.mem_cons_self)) (cvp 47 (x' := ((ρ 2))) (y' := ((ρ 4) + 393216)) (by show 0 + (1 * ρ 2 + 0) = _; omega) (by show 393216 + (1 * ρ 4 + 0) = _; omega) (hm _ (List.mem_cons_of_mem _ List.mem_cons_self))) (cvp 45 (x' := ((ρ 2))) (y' := ((ρ 3))) (by show 0 + (1 * ρ 2 + 0) = _; omega) (by show 0 + (1 * ρ 3 + 0) = _; omega) (hm _ (List.mem_cons_of_mem _ (List.mem_cons_of_mem _ List.mem_cons_self)))) (by have h := hF _ List.mem_cons_self; have h : 0 ≤ (-8) + (1 * ρ 4 + 0) := h; omega) hG
  obtain ⟨k0, -⟩ := H
  exact ⟨_, List.mem_cons_self, ρ, fun _ _ => rfl, (okM_c (pvp 66 (by show 0 + (1 * ρ 3 + 0) = _; omega) (by show 4 + 0 = _; omega) k0) okM_n), okB_n, okF_n⟩
-- ex145
theorem cr_238 (M : pM) (s0 s1 s2 s3 s4 : Int) (b0 : 0 ≤ s0 ∧ s0 ≤ 1900) (b1 : 0 ≤ s1 ∧ s1 ≤ 950) (b2 : 0 ≤ s2 ∧ s2 ≤ 1900) (b3 : 0 ≤ s3 ∧ s3 ≤ 1900) (b4 : 0 ≤ s4 ∧ s4 ≤ 9999) (m0 : HP 53 (4096 * s0 + s1) (256 * s2 + 145) M) (m1 : HP 47 (s2) (s4 + 393216) M) (m2 : HP 46 (s2) (s3) M) (f0 : 0 ≤ (s4)) (f1 : 0 ≤ ((-1) * s4 + 7)) (hG : gI M) : (HP 53 (4096 * s0 + s1) (256 * s3 + 146) M ∧ HP 79 (16 * s0 + 1) (s4) M ∧ True) := by
  refine ⟨?_, ?_, trivial⟩
  · exact r_ex (K := 9) (j := 0) m0 m1 m2 ⟨by omega, by omega, by decide⟩ (by omega) (by decide) (fun s hs hE e => by
        show qcN 0 7 none (tK (tm M) (qps (tm M) s.1 1)) = none
        rw [e]
        exact qcN_x (by omega) (by omega))
  · exact r_va (P := s0) (l := s1) (K := 9) (j := 0) m0 m1 ⟨by omega, by omega, by omega⟩ ⟨by omega, by omega, by decide⟩ (by omega) (by omega)
theorem rul_238 : Rul r_238 := by
  refine ⟨fun _ ρ M hm hB hF hG => ?_, fun gi gv hg => (by cases hg)⟩
  have H := cr_238 M (ρ 0) (ρ 1) (ρ 2) (ρ 3) (ρ 4) (hB _ List.mem_cons_self) (hB _ (List.mem_cons_of_mem _ List.mem_cons_self)) (hB _ (List.mem_cons_of_mem _ (List.mem_cons_of_mem _ List.mem_cons_self))) (hB _ (List.mem_cons_of_mem _ (List.mem_cons_of_mem _ (List.mem_cons_of_mem _ List.mem_cons_self)))) (hB _ (List.mem_cons_of_mem _ (List.mem_cons_of_mem _ (List.mem_cons_of_mem _ (List.mem_cons_of_mem _ List.mem_cons_self))))) (cvp 53 (x' := (4096 * (ρ 0) + (ρ 1))) (y' := (256 * (ρ 2) + 145)) (by show 0 + (4096 * ρ 0 + (1 * ρ 1 + 0)) = _; omega) (by show 145 + (256 * ρ 2 + 0) = _; omega) (hm _ List.mem_cons_self)) (cvp 47 (x' := ((ρ 2))) (y' := ((ρ 4) + 393216)) (by show 0 + (1 * ρ 2 + 0) = _; omega) (by show 393216 + (1 * ρ 4 + 0) = _; omega) (hm _ (List.mem_cons_of_mem _ List.mem_cons_self))) (cvp 46 (x' := ((ρ 2))) (y' := ((ρ 3))) (by show 0 + (1 * ρ 2 + 0) = _; omega) (by show 0 + (1 * ρ 3 + 0) = _; omega) (hm _ (List.mem_cons_of_mem _ (List.mem_cons_of_mem _ List.mem_cons_self)))) (by have h := hF _ List.mem_cons_self; have h : 0 ≤ 0 + (1 * ρ 4 + 0) := h; omega) (by have h := hF _ (List.mem_cons_of_mem _ List.mem_cons_self); have h : 0 ≤ 7 + ((-1) * ρ 4 + 0) := h; omega) hG
  obtain ⟨k0, k1, -⟩ := H
  exact ⟨_, List.mem_cons_self, ρ, fun _ _ => rfl, (okM_c (pvp 53 (by show 0 + (4096 * ρ 0 + (1 * ρ 1 + 0)) = _; omega) (by show 146 + (256 * ρ 3 + 0) = _; omega) k0) (okM_c (pvp 79 (by show 1 + (16 * ρ 0 + 0) = _; omega) (by show 0 + (1 * ρ 4 + 0) = _; omega) k1) okM_n)), okB_n, okF_n⟩
-- fk146
theorem cr_239 (M : pM) (s0 s1 s2 s3 s4 : Int) (b0 : 0 ≤ s0 ∧ s0 ≤ 1900) (b1 : 0 ≤ s1 ∧ s1 ≤ 950) (b2 : 0 ≤ s2 ∧ s2 ≤ 1900) (b3 : 0 ≤ s3 ∧ s3 ≤ 1900) (b4 : 256 ≤ s4 ∧ s4 ≤ 600000) (m0 : HP 53 (4096 * s0 + s1) (256 * s2 + 146) M) (m1 : HP 47 (s2) (s4) M) (m2 : HP 45 (s2) (s3) M) (f0 : 0 ≤ ((-1) * s4 + 393215)) (hG : gI M) : (HP 66 (s3) (2 : Int) M ∧ True) := by
  refine ⟨r_fl (K := 9) (j := 1) m0 m1 m2 ⟨by omega, by omega, by decide⟩ (fun s hs hE e => ?_), trivial⟩
  show qcN 0 7 none (tK (tm M) (qps (tm M) s.1 2)) = some 2
  rw [e]
  exact qcN_2 (by omega) (by omega)
theorem rul_239 : Rul r_239 := by
  refine ⟨fun _ ρ M hm hB hF hG => ?_, fun gi gv hg => (by cases hg)⟩
  have H := cr_239 M (ρ 0) (ρ 1) (ρ 2) (ρ 3) (ρ 4) (hB _ List.mem_cons_self) (hB _ (List.mem_cons_of_mem _ List.mem_cons_self)) (hB _ (List.mem_cons_of_mem _ (List.mem_cons_of_mem _ List.mem_cons_self))) (hB _ (List.mem_cons_of_mem _ (List.mem_cons_of_mem _ (List.mem_cons_of_mem _ List.mem_cons_self)))) (hB _ (List.mem_cons_of_mem _ (List.mem_cons_of_mem _ (List.mem_cons_of_mem _ (List.mem_cons_of_mem _ List.mem_cons_self))))) (cvp 53 (x' := (4096 * (ρ 0) + (ρ 1))) (y' := (256 * (ρ 2) + 146)) (by show 0 + (4096 * ρ 0 + (1 * ρ 1 + 0)) = _; omega) (by show 146 + (256 * ρ 2 + 0) = _; omega) (hm _ List.mem_cons_self)) (cvp 47 (x' := ((ρ 2))) (y' := ((ρ 4))) (by show 0 + (1 * ρ 2 + 0) = _; omega) (by show 0 + (1 * ρ 4 + 0) = _; omega) (hm _ (List.mem_cons_of_mem _ List.mem_cons_self))) (cvp 45 (x' := ((ρ 2))) (y' := ((ρ 3))) (by show 0 + (1 * ρ 2 + 0) = _; omega) (by show 0 + (1 * ρ 3 + 0) = _; omega) (hm _ (List.mem_cons_of_mem _ (List.mem_cons_of_mem _ List.mem_cons_self)))) (by have h := hF _ List.mem_cons_self; have h : 0 ≤ 393215 + ((-1) * ρ 4 + 0) := h; omega) hG
  obtain ⟨k0, -⟩ := H
  exact ⟨_, List.mem_cons_self, ρ, fun _ _ => rfl, (okM_c (pvp 66 (by show 0 + (1 * ρ 3 + 0) = _; omega) (by show 2 + 0 = _; omega) k0) okM_n), okB_n, okF_n⟩
-- fl146
theorem cr_240 (M : pM) (s0 s1 s2 s3 s4 : Int) (b0 : 0 ≤ s0 ∧ s0 ≤ 1900) (b1 : 0 ≤ s1 ∧ s1 ≤ 950) (b2 : 0 ≤ s2 ∧ s2 ≤ 1900) (b3 : 0 ≤ s3 ∧ s3 ≤ 1900) (b4 : 256 ≤ s4 ∧ s4 ≤ 600000) (m0 : HP 53 (4096 * s0 + s1) (256 * s2 + 146) M) (m1 : HP 47 (s2) (s4) M) (m2 : HP 45 (s2) (s3) M) (f0 : 0 ≤ (s4 - 403216)) (hG : gI M) : (HP 66 (s3) (2 : Int) M ∧ True) := by
  refine ⟨r_fl (K := 9) (j := 1) m0 m1 m2 ⟨by omega, by omega, by decide⟩ (fun s hs hE e => ?_), trivial⟩
  show qcN 0 7 none (tK (tm M) (qps (tm M) s.1 2)) = some 2
  rw [e]
  exact qcN_2 (by omega) (by omega)
theorem rul_240 : Rul r_240 := by
  refine ⟨fun _ ρ M hm hB hF hG => ?_, fun gi gv hg => (by cases hg)⟩
  have H := cr_240 M (ρ 0) (ρ 1) (ρ 2) (ρ 3) (ρ 4) (hB _ List.mem_cons_self) (hB _ (List.mem_cons_of_mem _ List.mem_cons_self)) (hB _ (List.mem_cons_of_mem _ (List.mem_cons_of_mem _ List.mem_cons_self))) (hB _ (List.mem_cons_of_mem _ (List.mem_cons_of_mem _ (List.mem_cons_of_mem _ List.mem_cons_self)))) (hB _ (List.mem_cons_of_mem _ (List.mem_cons_of_mem _ (List.mem_cons_of_mem _ (List.mem_cons_of_mem _ List.mem_cons_self))))) (cvp 53 (x' := (4096 * (ρ 0) + (ρ 1))) (y' := (256 * (ρ 2) + 146)) (by show 0 + (4096 * ρ 0 + (1 * ρ 1 + 0)) = _; omega) (by show 146 + (256 * ρ 2 + 0) = _; omega) (hm _ List.mem_cons_self)) (cvp 47 (x' := ((ρ 2))) (y' := ((ρ 4))) (by show 0 + (1 * ρ 2 + 0) = _; omega) (by show 0 + (1 * ρ 4 + 0) = _; omega) (hm _ (List.mem_cons_of_mem _ List.mem_cons_self))) (cvp 45 (x' := ((ρ 2))) (y' := ((ρ 3))) (by show 0 + (1 * ρ 2 + 0) = _; omega) (by show 0 + (1 * ρ 3 + 0) = _; omega) (hm _ (List.mem_cons_of_mem _ (List.mem_cons_of_mem _ List.mem_cons_self)))) (by have h := hF _ List.mem_cons_self; have h : 0 ≤ (-403216) + (1 * ρ 4 + 0) := h; omega) hG
  obtain ⟨k0, -⟩ := H
  exact ⟨_, List.mem_cons_self, ρ, fun _ _ => rfl, (okM_c (pvp 66 (by show 0 + (1 * ρ 3 + 0) = _; omega) (by show 2 + 0 = _; omega) k0) okM_n), okB_n, okF_n⟩
-- fn146
theorem cr_241 (M : pM) (s0 s1 s2 s3 s4 : Int) (b0 : 0 ≤ s0 ∧ s0 ≤ 1900) (b1 : 0 ≤ s1 ∧ s1 ≤ 950) (b2 : 0 ≤ s2 ∧ s2 ≤ 1900) (b3 : 0 ≤ s3 ∧ s3 ≤ 1900) (b4 : 0 ≤ s4 ∧ s4 ≤ 9999) (m0 : HP 53 (4096 * s0 + s1) (256 * s2 + 146) M) (m1 : HP 47 (s2) (s4 + 393216) M) (m2 : HP 45 (s2) (s3) M) (f0 : 0 ≤ (s4 - 8)) (hG : gI M) : (HP 66 (s3) (4 : Int) M ∧ True) := by
  refine ⟨r_fl (K := 9) (j := 1) m0 m1 m2 ⟨by omega, by omega, by decide⟩ (fun s hs hE e => ?_), trivial⟩
  show qcN 0 7 none (tK (tm M) (qps (tm M) s.1 2)) = some 4
  rw [e]
  exact qcN_4 (by omega) (Or.inr (by omega))
theorem rul_241 : Rul r_241 := by
  refine ⟨fun _ ρ M hm hB hF hG => ?_, fun gi gv hg => (by cases hg)⟩
  have H := cr_241 M (ρ 0) (ρ 1) (ρ 2) (ρ 3) (ρ 4) (hB _ List.mem_cons_self) (hB _ (List.mem_cons_of_mem _ List.mem_cons_self)) (hB _ (List.mem_cons_of_mem _ (List.mem_cons_of_mem _ List.mem_cons_self))) (hB _ (List.mem_cons_of_mem _ (List.mem_cons_of_mem _ (List.mem_cons_of_mem _ List.mem_cons_self)))) (hB _ (List.mem_cons_of_mem _ (List.mem_cons_of_mem _ (List.mem_cons_of_mem _ (List.mem_cons_of_mem _ List.mem_cons_self))))) (cvp 53 (x' := (4096 * (ρ 0) + (ρ 1))) (y' := (256 * (ρ 2) + 146)) (by show 0 + (4096 * ρ 0 + (1 * ρ 1 + 0)) = _; omega) (by show 146 + (256 * ρ 2 + 0) = _; omega) (hm _ List.mem_cons_self)) (cvp 47 (x' := ((ρ 2))) (y' := ((ρ 4) + 393216)) (by show 0 + (1 * ρ 2 + 0) = _; omega) (by show 393216 + (1 * ρ 4 + 0) = _; omega) (hm _ (List.mem_cons_of_mem _ List.mem_cons_self))) (cvp 45 (x' := ((ρ 2))) (y' := ((ρ 3))) (by show 0 + (1 * ρ 2 + 0) = _; omega) (by show 0 + (1 * ρ 3 + 0) = _; omega) (hm _ (List.mem_cons_of_mem _ (List.mem_cons_of_mem _ List.mem_cons_self)))) (by have h := hF _ List.mem_cons_self; have h : 0 ≤ (-8) + (1 * ρ 4 + 0) := h; omega) hG
  obtain ⟨k0, -⟩ := H
  exact ⟨_, List.mem_cons_self, ρ, fun _ _ => rfl, (okM_c (pvp 66 (by show 0 + (1 * ρ 3 + 0) = _; omega) (by show 4 + 0 = _; omega) k0) okM_n), okB_n, okF_n⟩
-- ex146
theorem cr_242 (M : pM) (s0 s1 s2 s3 s4 : Int) (b0 : 0 ≤ s0 ∧ s0 ≤ 1900) (b1 : 0 ≤ s1 ∧ s1 ≤ 950) (b2 : 0 ≤ s2 ∧ s2 ≤ 1900) (b3 : 0 ≤ s3 ∧ s3 ≤ 1900) (b4 : 0 ≤ s4 ∧ s4 ≤ 9999) (m0 : HP 53 (4096 * s0 + s1) (256 * s2 + 146) M) (m1 : HP 47 (s2) (s4 + 393216) M) (m2 : HP 46 (s2) (s3) M) (f0 : 0 ≤ (s4)) (f1 : 0 ≤ ((-1) * s4 + 7)) (hG : gI M) : (HP 53 (4096 * s0 + s1) (256 * s3 + 147) M ∧ HP 79 (16 * s0 + 2) (s4) M ∧ True) := by
  refine ⟨?_, ?_, trivial⟩
  · exact r_ex (K := 9) (j := 1) m0 m1 m2 ⟨by omega, by omega, by decide⟩ (by omega) (by decide) (fun s hs hE e => by
        show qcN 0 7 none (tK (tm M) (qps (tm M) s.1 2)) = none
        rw [e]
        exact qcN_x (by omega) (by omega))
  · exact r_va (P := s0) (l := s1) (K := 9) (j := 1) m0 m1 ⟨by omega, by omega, by omega⟩ ⟨by omega, by omega, by decide⟩ (by omega) (by omega)
theorem rul_242 : Rul r_242 := by
  refine ⟨fun _ ρ M hm hB hF hG => ?_, fun gi gv hg => (by cases hg)⟩
  have H := cr_242 M (ρ 0) (ρ 1) (ρ 2) (ρ 3) (ρ 4) (hB _ List.mem_cons_self) (hB _ (List.mem_cons_of_mem _ List.mem_cons_self)) (hB _ (List.mem_cons_of_mem _ (List.mem_cons_of_mem _ List.mem_cons_self))) (hB _ (List.mem_cons_of_mem _ (List.mem_cons_of_mem _ (List.mem_cons_of_mem _ List.mem_cons_self)))) (hB _ (List.mem_cons_of_mem _ (List.mem_cons_of_mem _ (List.mem_cons_of_mem _ (List.mem_cons_of_mem _ List.mem_cons_self))))) (cvp 53 (x' := (4096 * (ρ 0) + (ρ 1))) (y' := (256 * (ρ 2) + 146)) (by show 0 + (4096 * ρ 0 + (1 * ρ 1 + 0)) = _; omega) (by show 146 + (256 * ρ 2 + 0) = _; omega) (hm _ List.mem_cons_self)) (cvp 47 (x' := ((ρ 2))) (y' := ((ρ 4) + 393216)) (by show 0 + (1 * ρ 2 + 0) = _; omega) (by show 393216 + (1 * ρ 4 + 0) = _; omega) (hm _ (List.mem_cons_of_mem _ List.mem_cons_self))) (cvp 46 (x' := ((ρ 2))) (y' := ((ρ 3))) (by show 0 + (1 * ρ 2 + 0) = _; omega) (by show 0 + (1 * ρ 3 + 0) = _; omega) (hm _ (List.mem_cons_of_mem _ (List.mem_cons_of_mem _ List.mem_cons_self)))) (by have h := hF _ List.mem_cons_self; have h : 0 ≤ 0 + (1 * ρ 4 + 0) := h; omega) (by have h := hF _ (List.mem_cons_of_mem _ List.mem_cons_self); have h : 0 ≤ 7 + ((-1) * ρ 4 + 0) := h; omega) hG
  obtain ⟨k0, k1, -⟩ := H
  exact ⟨_, List.mem_cons_self, ρ, fun _ _ => rfl, (okM_c (pvp 53 (by show 0 + (4096 * ρ 0 + (1 * ρ 1 + 0)) = _; omega) (by show 147 + (256 * ρ 3 + 0) = _; omega) k0) (okM_c (pvp 79 (by show 2 + (16 * ρ 0 + 0) = _; omega) (by show 0 + (1 * ρ 4 + 0) = _; omega) k1) okM_n)), okB_n, okF_n⟩
-- fk147
theorem cr_243 (M : pM) (s0 s1 s2 s3 s4 : Int) (b0 : 0 ≤ s0 ∧ s0 ≤ 1900) (b1 : 0 ≤ s1 ∧ s1 ≤ 950) (b2 : 0 ≤ s2 ∧ s2 ≤ 1900) (b3 : 0 ≤ s3 ∧ s3 ≤ 1900) (b4 : 256 ≤ s4 ∧ s4 ≤ 600000) (m0 : HP 53 (4096 * s0 + s1) (256 * s2 + 147) M) (m1 : HP 47 (s2) (s4) M) (m2 : HP 45 (s2) (s3) M) (f0 : 0 ≤ ((-1) * s4 + 393215)) (hG : gI M) : (HP 66 (s3) (2 : Int) M ∧ True) := by
  refine ⟨r_fl (K := 9) (j := 2) m0 m1 m2 ⟨by omega, by omega, by decide⟩ (fun s hs hE e => ?_), trivial⟩
  show qcN 0 7 none (tK (tm M) (qps (tm M) s.1 3)) = some 2
  rw [e]
  exact qcN_2 (by omega) (by omega)
theorem rul_243 : Rul r_243 := by
  refine ⟨fun _ ρ M hm hB hF hG => ?_, fun gi gv hg => (by cases hg)⟩
  have H := cr_243 M (ρ 0) (ρ 1) (ρ 2) (ρ 3) (ρ 4) (hB _ List.mem_cons_self) (hB _ (List.mem_cons_of_mem _ List.mem_cons_self)) (hB _ (List.mem_cons_of_mem _ (List.mem_cons_of_mem _ List.mem_cons_self))) (hB _ (List.mem_cons_of_mem _ (List.mem_cons_of_mem _ (List.mem_cons_of_mem _ List.mem_cons_self)))) (hB _ (List.mem_cons_of_mem _ (List.mem_cons_of_mem _ (List.mem_cons_of_mem _ (List.mem_cons_of_mem _ List.mem_cons_self))))) (cvp 53 (x' := (4096 * (ρ 0) + (ρ 1))) (y' := (256 * (ρ 2) + 147)) (by show 0 + (4096 * ρ 0 + (1 * ρ 1 + 0)) = _; omega) (by show 147 + (256 * ρ 2 + 0) = _; omega) (hm _ List.mem_cons_self)) (cvp 47 (x' := ((ρ 2))) (y' := ((ρ 4))) (by show 0 + (1 * ρ 2 + 0) = _; omega) (by show 0 + (1 * ρ 4 + 0) = _; omega) (hm _ (List.mem_cons_of_mem _ List.mem_cons_self))) (cvp 45 (x' := ((ρ 2))) (y' := ((ρ 3))) (by show 0 + (1 * ρ 2 + 0) = _; omega) (by show 0 + (1 * ρ 3 + 0) = _; omega) (hm _ (List.mem_cons_of_mem _ (List.mem_cons_of_mem _ List.mem_cons_self)))) (by have h := hF _ List.mem_cons_self; have h : 0 ≤ 393215 + ((-1) * ρ 4 + 0) := h; omega) hG
  obtain ⟨k0, -⟩ := H
  exact ⟨_, List.mem_cons_self, ρ, fun _ _ => rfl, (okM_c (pvp 66 (by show 0 + (1 * ρ 3 + 0) = _; omega) (by show 2 + 0 = _; omega) k0) okM_n), okB_n, okF_n⟩
-- fl147
theorem cr_244 (M : pM) (s0 s1 s2 s3 s4 : Int) (b0 : 0 ≤ s0 ∧ s0 ≤ 1900) (b1 : 0 ≤ s1 ∧ s1 ≤ 950) (b2 : 0 ≤ s2 ∧ s2 ≤ 1900) (b3 : 0 ≤ s3 ∧ s3 ≤ 1900) (b4 : 256 ≤ s4 ∧ s4 ≤ 600000) (m0 : HP 53 (4096 * s0 + s1) (256 * s2 + 147) M) (m1 : HP 47 (s2) (s4) M) (m2 : HP 45 (s2) (s3) M) (f0 : 0 ≤ (s4 - 403216)) (hG : gI M) : (HP 66 (s3) (2 : Int) M ∧ True) := by
  refine ⟨r_fl (K := 9) (j := 2) m0 m1 m2 ⟨by omega, by omega, by decide⟩ (fun s hs hE e => ?_), trivial⟩
  show qcN 0 7 none (tK (tm M) (qps (tm M) s.1 3)) = some 2
  rw [e]
  exact qcN_2 (by omega) (by omega)
theorem rul_244 : Rul r_244 := by
  refine ⟨fun _ ρ M hm hB hF hG => ?_, fun gi gv hg => (by cases hg)⟩
  have H := cr_244 M (ρ 0) (ρ 1) (ρ 2) (ρ 3) (ρ 4) (hB _ List.mem_cons_self) (hB _ (List.mem_cons_of_mem _ List.mem_cons_self)) (hB _ (List.mem_cons_of_mem _ (List.mem_cons_of_mem _ List.mem_cons_self))) (hB _ (List.mem_cons_of_mem _ (List.mem_cons_of_mem _ (List.mem_cons_of_mem _ List.mem_cons_self)))) (hB _ (List.mem_cons_of_mem _ (List.mem_cons_of_mem _ (List.mem_cons_of_mem _ (List.mem_cons_of_mem _ List.mem_cons_self))))) (cvp 53 (x' := (4096 * (ρ 0) + (ρ 1))) (y' := (256 * (ρ 2) + 147)) (by show 0 + (4096 * ρ 0 + (1 * ρ 1 + 0)) = _; omega) (by show 147 + (256 * ρ 2 + 0) = _; omega) (hm _ List.mem_cons_self)) (cvp 47 (x' := ((ρ 2))) (y' := ((ρ 4))) (by show 0 + (1 * ρ 2 + 0) = _; omega) (by show 0 + (1 * ρ 4 + 0) = _; omega) (hm _ (List.mem_cons_of_mem _ List.mem_cons_self))) (cvp 45 (x' := ((ρ 2))) (y' := ((ρ 3))) (by show 0 + (1 * ρ 2 + 0) = _; omega) (by show 0 + (1 * ρ 3 + 0) = _; omega) (hm _ (List.mem_cons_of_mem _ (List.mem_cons_of_mem _ List.mem_cons_self)))) (by have h := hF _ List.mem_cons_self; have h : 0 ≤ (-403216) + (1 * ρ 4 + 0) := h; omega) hG
  obtain ⟨k0, -⟩ := H
  exact ⟨_, List.mem_cons_self, ρ, fun _ _ => rfl, (okM_c (pvp 66 (by show 0 + (1 * ρ 3 + 0) = _; omega) (by show 2 + 0 = _; omega) k0) okM_n), okB_n, okF_n⟩
-- fn147
theorem cr_245 (M : pM) (s0 s1 s2 s3 s4 : Int) (b0 : 0 ≤ s0 ∧ s0 ≤ 1900) (b1 : 0 ≤ s1 ∧ s1 ≤ 950) (b2 : 0 ≤ s2 ∧ s2 ≤ 1900) (b3 : 0 ≤ s3 ∧ s3 ≤ 1900) (b4 : 0 ≤ s4 ∧ s4 ≤ 9999) (m0 : HP 53 (4096 * s0 + s1) (256 * s2 + 147) M) (m1 : HP 47 (s2) (s4 + 393216) M) (m2 : HP 45 (s2) (s3) M) (f0 : 0 ≤ (s4 - 8)) (hG : gI M) : (HP 66 (s3) (4 : Int) M ∧ True) := by
  refine ⟨r_fl (K := 9) (j := 2) m0 m1 m2 ⟨by omega, by omega, by decide⟩ (fun s hs hE e => ?_), trivial⟩
  show qcN 0 7 none (tK (tm M) (qps (tm M) s.1 3)) = some 4
  rw [e]
  exact qcN_4 (by omega) (Or.inr (by omega))
theorem rul_245 : Rul r_245 := by
  refine ⟨fun _ ρ M hm hB hF hG => ?_, fun gi gv hg => (by cases hg)⟩
  have H := cr_245 M (ρ 0) (ρ 1) (ρ 2) (ρ 3) (ρ 4) (hB _ List.mem_cons_self) (hB _ (List.mem_cons_of_mem _ List.mem_cons_self)) (hB _ (List.mem_cons_of_mem _ (List.mem_cons_of_mem _ List.mem_cons_self))) (hB _ (List.mem_cons_of_mem _ (List.mem_cons_of_mem _ (List.mem_cons_of_mem _ List.mem_cons_self)))) (hB _ (List.mem_cons_of_mem _ (List.mem_cons_of_mem _ (List.mem_cons_of_mem _ (List.mem_cons_of_mem _ List.mem_cons_self))))) (cvp 53 (x' := (4096 * (ρ 0) + (ρ 1))) (y' := (256 * (ρ 2) + 147)) (by show 0 + (4096 * ρ 0 + (1 * ρ 1 + 0)) = _; omega) (by show 147 + (256 * ρ 2 + 0) = _; omega) (hm _ List.mem_cons_self)) (cvp 47 (x' := ((ρ 2))) (y' := ((ρ 4) + 393216)) (by show 0 + (1 * ρ 2 + 0) = _; omega) (by show 393216 + (1 * ρ 4 + 0) = _; omega) (hm _ (List.mem_cons_of_mem _ List.mem_cons_self))) (cvp 45 (x' := ((ρ 2))) (y' := ((ρ 3))) (by show 0 + (1 * ρ 2 + 0) = _; omega) (by show 0 + (1 * ρ 3 + 0) = _; omega) (hm _ (List.mem_cons_of_mem _ (List.mem_cons_of_mem _ List.mem_cons_self)))) (by have h := hF _ List.mem_cons_self; have h : 0 ≤ (-8) + (1 * ρ 4 + 0) := h; omega) hG
  obtain ⟨k0, -⟩ := H
  exact ⟨_, List.mem_cons_self, ρ, fun _ _ => rfl, (okM_c (pvp 66 (by show 0 + (1 * ρ 3 + 0) = _; omega) (by show 4 + 0 = _; omega) k0) okM_n), okB_n, okF_n⟩
-- ex147
theorem cr_246 (M : pM) (s0 s1 s2 s3 s4 : Int) (b0 : 0 ≤ s0 ∧ s0 ≤ 1900) (b1 : 0 ≤ s1 ∧ s1 ≤ 950) (b2 : 0 ≤ s2 ∧ s2 ≤ 1900) (b3 : 0 ≤ s3 ∧ s3 ≤ 1900) (b4 : 0 ≤ s4 ∧ s4 ≤ 9999) (m0 : HP 53 (4096 * s0 + s1) (256 * s2 + 147) M) (m1 : HP 47 (s2) (s4 + 393216) M) (m2 : HP 46 (s2) (s3) M) (f0 : 0 ≤ (s4)) (f1 : 0 ≤ ((-1) * s4 + 7)) (hG : gI M) : (HP 53 (4096 * s0 + s1) (256 * s3 + 148) M ∧ HP 79 (16 * s0 + 3) (s4) M ∧ True) := by
  refine ⟨?_, ?_, trivial⟩
  · exact r_ex (K := 9) (j := 2) m0 m1 m2 ⟨by omega, by omega, by decide⟩ (by omega) (by decide) (fun s hs hE e => by
        show qcN 0 7 none (tK (tm M) (qps (tm M) s.1 3)) = none
        rw [e]
        exact qcN_x (by omega) (by omega))
  · exact r_va (P := s0) (l := s1) (K := 9) (j := 2) m0 m1 ⟨by omega, by omega, by omega⟩ ⟨by omega, by omega, by decide⟩ (by omega) (by omega)
theorem rul_246 : Rul r_246 := by
  refine ⟨fun _ ρ M hm hB hF hG => ?_, fun gi gv hg => (by cases hg)⟩
  have H := cr_246 M (ρ 0) (ρ 1) (ρ 2) (ρ 3) (ρ 4) (hB _ List.mem_cons_self) (hB _ (List.mem_cons_of_mem _ List.mem_cons_self)) (hB _ (List.mem_cons_of_mem _ (List.mem_cons_of_mem _ List.mem_cons_self))) (hB _ (List.mem_cons_of_mem _ (List.mem_cons_of_mem _ (List.mem_cons_of_mem _ List.mem_cons_self)))) (hB _ (List.mem_cons_of_mem _ (List.mem_cons_of_mem _ (List.mem_cons_of_mem _ (List.mem_cons_of_mem _ List.mem_cons_self))))) (cvp 53 (x' := (4096 * (ρ 0) + (ρ 1))) (y' := (256 * (ρ 2) + 147)) (by show 0 + (4096 * ρ 0 + (1 * ρ 1 + 0)) = _; omega) (by show 147 + (256 * ρ 2 + 0) = _; omega) (hm _ List.mem_cons_self)) (cvp 47 (x' := ((ρ 2))) (y' := ((ρ 4) + 393216)) (by show 0 + (1 * ρ 2 + 0) = _; omega) (by show 393216 + (1 * ρ 4 + 0) = _; omega) (hm _ (List.mem_cons_of_mem _ List.mem_cons_self))) (cvp 46 (x' := ((ρ 2))) (y' := ((ρ 3))) (by show 0 + (1 * ρ 2 + 0) = _; omega) (by show 0 + (1 * ρ 3 + 0) = _; omega) (hm _ (List.mem_cons_of_mem _ (List.mem_cons_of_mem _ List.mem_cons_self)))) (by have h := hF _ List.mem_cons_self; have h : 0 ≤ 0 + (1 * ρ 4 + 0) := h; omega) (by have h := hF _ (List.mem_cons_of_mem _ List.mem_cons_self); have h : 0 ≤ 7 + ((-1) * ρ 4 + 0) := h; omega) hG
  obtain ⟨k0, k1, -⟩ := H
  exact ⟨_, List.mem_cons_self, ρ, fun _ _ => rfl, (okM_c (pvp 53 (by show 0 + (4096 * ρ 0 + (1 * ρ 1 + 0)) = _; omega) (by show 148 + (256 * ρ 3 + 0) = _; omega) k0) (okM_c (pvp 79 (by show 3 + (16 * ρ 0 + 0) = _; omega) (by show 0 + (1 * ρ 4 + 0) = _; omega) k1) okM_n)), okB_n, okF_n⟩
-- fk148
theorem cr_247 (M : pM) (s0 s1 s2 s3 s4 : Int) (b0 : 0 ≤ s0 ∧ s0 ≤ 1900) (b1 : 0 ≤ s1 ∧ s1 ≤ 950) (b2 : 0 ≤ s2 ∧ s2 ≤ 1900) (b3 : 0 ≤ s3 ∧ s3 ≤ 1900) (b4 : 256 ≤ s4 ∧ s4 ≤ 600000) (m0 : HP 53 (4096 * s0 + s1) (256 * s2 + 148) M) (m1 : HP 47 (s2) (s4) M) (m2 : HP 45 (s2) (s3) M) (f0 : 0 ≤ ((-1) * s4 + 393215)) (hG : gI M) : (HP 66 (s3) (2 : Int) M ∧ True) := by
  refine ⟨r_fl (K := 9) (j := 3) m0 m1 m2 ⟨by omega, by omega, by decide⟩ (fun s hs hE e => ?_), trivial⟩
  show qcN 0 7 (if qvl (tm M) s.1 3 + 8 * qvl (tm M) s.1 4 = qvl (tm M) s.1 1 + 8 * qvl (tm M) s.1 2 then some 5 else none) (tK (tm M) (qps (tm M) s.1 4)) = some 2
  rw [e]
  exact qcN_2 (by omega) (by omega)
theorem rul_247 : Rul r_247 := by
  refine ⟨fun _ ρ M hm hB hF hG => ?_, fun gi gv hg => (by cases hg)⟩
  have H := cr_247 M (ρ 0) (ρ 1) (ρ 2) (ρ 3) (ρ 4) (hB _ List.mem_cons_self) (hB _ (List.mem_cons_of_mem _ List.mem_cons_self)) (hB _ (List.mem_cons_of_mem _ (List.mem_cons_of_mem _ List.mem_cons_self))) (hB _ (List.mem_cons_of_mem _ (List.mem_cons_of_mem _ (List.mem_cons_of_mem _ List.mem_cons_self)))) (hB _ (List.mem_cons_of_mem _ (List.mem_cons_of_mem _ (List.mem_cons_of_mem _ (List.mem_cons_of_mem _ List.mem_cons_self))))) (cvp 53 (x' := (4096 * (ρ 0) + (ρ 1))) (y' := (256 * (ρ 2) + 148)) (by show 0 + (4096 * ρ 0 + (1 * ρ 1 + 0)) = _; omega) (by show 148 + (256 * ρ 2 + 0) = _; omega) (hm _ List.mem_cons_self)) (cvp 47 (x' := ((ρ 2))) (y' := ((ρ 4))) (by show 0 + (1 * ρ 2 + 0) = _; omega) (by show 0 + (1 * ρ 4 + 0) = _; omega) (hm _ (List.mem_cons_of_mem _ List.mem_cons_self))) (cvp 45 (x' := ((ρ 2))) (y' := ((ρ 3))) (by show 0 + (1 * ρ 2 + 0) = _; omega) (by show 0 + (1 * ρ 3 + 0) = _; omega) (hm _ (List.mem_cons_of_mem _ (List.mem_cons_of_mem _ List.mem_cons_self)))) (by have h := hF _ List.mem_cons_self; have h : 0 ≤ 393215 + ((-1) * ρ 4 + 0) := h; omega) hG
  obtain ⟨k0, -⟩ := H
  exact ⟨_, List.mem_cons_self, ρ, fun _ _ => rfl, (okM_c (pvp 66 (by show 0 + (1 * ρ 3 + 0) = _; omega) (by show 2 + 0 = _; omega) k0) okM_n), okB_n, okF_n⟩
-- fl148
theorem cr_248 (M : pM) (s0 s1 s2 s3 s4 : Int) (b0 : 0 ≤ s0 ∧ s0 ≤ 1900) (b1 : 0 ≤ s1 ∧ s1 ≤ 950) (b2 : 0 ≤ s2 ∧ s2 ≤ 1900) (b3 : 0 ≤ s3 ∧ s3 ≤ 1900) (b4 : 256 ≤ s4 ∧ s4 ≤ 600000) (m0 : HP 53 (4096 * s0 + s1) (256 * s2 + 148) M) (m1 : HP 47 (s2) (s4) M) (m2 : HP 45 (s2) (s3) M) (f0 : 0 ≤ (s4 - 403216)) (hG : gI M) : (HP 66 (s3) (2 : Int) M ∧ True) := by
  refine ⟨r_fl (K := 9) (j := 3) m0 m1 m2 ⟨by omega, by omega, by decide⟩ (fun s hs hE e => ?_), trivial⟩
  show qcN 0 7 (if qvl (tm M) s.1 3 + 8 * qvl (tm M) s.1 4 = qvl (tm M) s.1 1 + 8 * qvl (tm M) s.1 2 then some 5 else none) (tK (tm M) (qps (tm M) s.1 4)) = some 2
  rw [e]
  exact qcN_2 (by omega) (by omega)
theorem rul_248 : Rul r_248 := by
  refine ⟨fun _ ρ M hm hB hF hG => ?_, fun gi gv hg => (by cases hg)⟩
  have H := cr_248 M (ρ 0) (ρ 1) (ρ 2) (ρ 3) (ρ 4) (hB _ List.mem_cons_self) (hB _ (List.mem_cons_of_mem _ List.mem_cons_self)) (hB _ (List.mem_cons_of_mem _ (List.mem_cons_of_mem _ List.mem_cons_self))) (hB _ (List.mem_cons_of_mem _ (List.mem_cons_of_mem _ (List.mem_cons_of_mem _ List.mem_cons_self)))) (hB _ (List.mem_cons_of_mem _ (List.mem_cons_of_mem _ (List.mem_cons_of_mem _ (List.mem_cons_of_mem _ List.mem_cons_self))))) (cvp 53 (x' := (4096 * (ρ 0) + (ρ 1))) (y' := (256 * (ρ 2) + 148)) (by show 0 + (4096 * ρ 0 + (1 * ρ 1 + 0)) = _; omega) (by show 148 + (256 * ρ 2 + 0) = _; omega) (hm _ List.mem_cons_self)) (cvp 47 (x' := ((ρ 2))) (y' := ((ρ 4))) (by show 0 + (1 * ρ 2 + 0) = _; omega) (by show 0 + (1 * ρ 4 + 0) = _; omega) (hm _ (List.mem_cons_of_mem _ List.mem_cons_self))) (cvp 45 (x' := ((ρ 2))) (y' := ((ρ 3))) (by show 0 + (1 * ρ 2 + 0) = _; omega) (by show 0 + (1 * ρ 3 + 0) = _; omega) (hm _ (List.mem_cons_of_mem _ (List.mem_cons_of_mem _ List.mem_cons_self)))) (by have h := hF _ List.mem_cons_self; have h : 0 ≤ (-403216) + (1 * ρ 4 + 0) := h; omega) hG
  obtain ⟨k0, -⟩ := H
  exact ⟨_, List.mem_cons_self, ρ, fun _ _ => rfl, (okM_c (pvp 66 (by show 0 + (1 * ρ 3 + 0) = _; omega) (by show 2 + 0 = _; omega) k0) okM_n), okB_n, okF_n⟩
-- fn148
theorem cr_249 (M : pM) (s0 s1 s2 s3 s4 : Int) (b0 : 0 ≤ s0 ∧ s0 ≤ 1900) (b1 : 0 ≤ s1 ∧ s1 ≤ 950) (b2 : 0 ≤ s2 ∧ s2 ≤ 1900) (b3 : 0 ≤ s3 ∧ s3 ≤ 1900) (b4 : 0 ≤ s4 ∧ s4 ≤ 9999) (m0 : HP 53 (4096 * s0 + s1) (256 * s2 + 148) M) (m1 : HP 47 (s2) (s4 + 393216) M) (m2 : HP 45 (s2) (s3) M) (f0 : 0 ≤ (s4 - 8)) (hG : gI M) : (HP 66 (s3) (4 : Int) M ∧ True) := by
  refine ⟨r_fl (K := 9) (j := 3) m0 m1 m2 ⟨by omega, by omega, by decide⟩ (fun s hs hE e => ?_), trivial⟩
  show qcN 0 7 (if qvl (tm M) s.1 3 + 8 * qvl (tm M) s.1 4 = qvl (tm M) s.1 1 + 8 * qvl (tm M) s.1 2 then some 5 else none) (tK (tm M) (qps (tm M) s.1 4)) = some 4
  rw [e]
  exact qcN_4 (by omega) (Or.inr (by omega))
theorem rul_249 : Rul r_249 := by
  refine ⟨fun _ ρ M hm hB hF hG => ?_, fun gi gv hg => (by cases hg)⟩
  have H := cr_249 M (ρ 0) (ρ 1) (ρ 2) (ρ 3) (ρ 4) (hB _ List.mem_cons_self) (hB _ (List.mem_cons_of_mem _ List.mem_cons_self)) (hB _ (List.mem_cons_of_mem _ (List.mem_cons_of_mem _ List.mem_cons_self))) (hB _ (List.mem_cons_of_mem _ (List.mem_cons_of_mem _ (List.mem_cons_of_mem _ List.mem_cons_self)))) (hB _ (List.mem_cons_of_mem _ (List.mem_cons_of_mem _ (List.mem_cons_of_mem _ (List.mem_cons_of_mem _ List.mem_cons_self))))) (cvp 53 (x' := (4096 * (ρ 0) + (ρ 1))) (y' := (256 * (ρ 2) + 148)) (by show 0 + (4096 * ρ 0 + (1 * ρ 1 + 0)) = _; omega) (by show 148 + (256 * ρ 2 + 0) = _; omega) (hm _ List.mem_cons_self)) (cvp 47 (x' := ((ρ 2))) (y' := ((ρ 4) + 393216)) (by show 0 + (1 * ρ 2 + 0) = _; omega) (by show 393216 + (1 * ρ 4 + 0) = _; omega) (hm _ (List.mem_cons_of_mem _ List.mem_cons_self))) (cvp 45 (x' := ((ρ 2))) (y' := ((ρ 3))) (by show 0 + (1 * ρ 2 + 0) = _; omega) (by show 0 + (1 * ρ 3 + 0) = _; omega) (hm _ (List.mem_cons_of_mem _ (List.mem_cons_of_mem _ List.mem_cons_self)))) (by have h := hF _ List.mem_cons_self; have h : 0 ≤ (-8) + (1 * ρ 4 + 0) := h; omega) hG
  obtain ⟨k0, -⟩ := H
  exact ⟨_, List.mem_cons_self, ρ, fun _ _ => rfl, (okM_c (pvp 66 (by show 0 + (1 * ρ 3 + 0) = _; omega) (by show 4 + 0 = _; omega) k0) okM_n), okB_n, okF_n⟩
-- ex148_0
theorem cr_250 (M : pM) (s0 s1 s2 s3 s4 s5 s6 s7 : Int) (b0 : 0 ≤ s0 ∧ s0 ≤ 1900) (b1 : 0 ≤ s1 ∧ s1 ≤ 950) (b2 : 0 ≤ s2 ∧ s2 ≤ 1900) (b3 : 0 ≤ s3 ∧ s3 ≤ 1900) (b4 : 0 ≤ s4 ∧ s4 ≤ 7) (b5 : 0 ≤ s5 ∧ s5 ≤ 7) (b6 : 0 ≤ s6 ∧ s6 ≤ 7) (b7 : 0 ≤ s7 ∧ s7 ≤ 7) (m0 : HP 53 (4096 * s0 + s1) (256 * s2 + 148) M) (m1 : HP 47 (s2) (s4 + 393216) M) (m2 : HP 46 (s2) (s3) M) (m3 : HP 79 (16 * s0 + 1) (s5) M) (m4 : HP 79 (16 * s0 + 2) (s6) M) (m5 : HP 79 (16 * s0 + 3) (s7) M) (f0 : 0 ≤ ((-8) * s4 + s5 + 8 * s6 + (-1) * s7 - 1)) (hG : gI M) : (HP 53 (4096 * s0 + s1) (256 * s3 + 149) M ∧ HP 79 (16 * s0 + 4) (s4) M ∧ True) := by
  have hc : ∀ s : Nat × pM, qat (tm M) (4096 * s0 + s1) s → tK (tm M) (qps (tm M) s.1 4) = (s4 + 393216) → qck (tm M) s.1 s.2 9 4 = none := by
    intro s hs e
    have hp : s0.toNat = s.1 := by have := qat_p (P := s0) (l := s1) hs ⟨by omega, by omega, by omega⟩; omega
    have e1 := q79 (P := s0) (i := 1) m3 ⟨by omega, by decide⟩ (by omega)
    have e2 := q79 (P := s0) (i := 2) m4 ⟨by omega, by decide⟩ (by omega)
    have e3 := q79 (P := s0) (i := 3) m5 ⟨by omega, by decide⟩ (by omega)
    rw [hp] at e1 e2 e3
    have e4 : qvl (tm M) s.1 4 = s4 := by unfold qvl; omega
    show qcN 0 7 (if qvl (tm M) s.1 3 + 8 * qvl (tm M) s.1 4 = qvl (tm M) s.1 1 + 8 * qvl (tm M) s.1 2 then some 5 else none) (tK (tm M) (qps (tm M) s.1 4)) = _
    rw [e, qcN_x (by omega) (by omega)]
    exact if_neg (by omega)
  exact ⟨r_ex (K := 9) (j := 3) m0 m1 m2 ⟨by omega, by omega, by decide⟩ (by omega) (by decide) (fun s hs hE e => hc s hs e), r_va (P := s0) (l := s1) (K := 9) (j := 3) m0 m1 ⟨by omega, by omega, by omega⟩ ⟨by omega, by omega, by decide⟩ (by omega) (by omega), trivial⟩
theorem rul_250 : Rul r_250 := by
  refine ⟨fun _ ρ M hm hB hF hG => ?_, fun gi gv hg => (by cases hg)⟩
  have H := cr_250 M (ρ 0) (ρ 1) (ρ 2) (ρ 3) (ρ 4) (ρ 5) (ρ 6) (ρ 7) (hB _ List.mem_cons_self) (hB _ (List.mem_cons_of_mem _ List.mem_cons_self)) (hB _ (List.mem_cons_of_mem _ (List.mem_cons_of_mem _ List.mem_cons_self))) (hB _ (List.mem_cons_of_mem _ (List.mem_cons_of_mem _ (List.mem_cons_of_mem _ List.mem_cons_self)))) (hB _ (List.mem_cons_of_mem _ (List.mem_cons_of_mem _ (List.mem_cons_of_mem _ (List.mem_cons_of_mem _ List.mem_cons_self))))) (hB _ (List.mem_cons_of_mem _ (List.mem_cons_of_mem _ (List.mem_cons_of_mem _ (List.mem_cons_of_mem _ (List.mem_cons_of_mem _ List.mem_cons_self)))))) (hB _ (List.mem_cons_of_mem _ (List.mem_cons_of_mem _ (List.mem_cons_of_mem _ (List.mem_cons_of_mem _ (List.mem_cons_of_mem _ (List.mem_cons_of_mem _ List.mem_cons_self))))))) (hB _ (List.mem_cons_of_mem _ (List.mem_cons_of_mem _ (List.mem_cons_of_mem _ (List.mem_cons_of_mem _ (List.mem_cons_of_mem _ (List.mem_cons_of_mem _ (List.mem_cons_of_mem _ List.mem_cons_self)))))))) (cvp 53 (x' := (4096 * (ρ 0) + (ρ 1))) (y' := (256 * (ρ 2) + 148)) (by show 0 + (4096 * ρ 0 + (1 * ρ 1 + 0)) = _; omega) (by show 148 + (256 * ρ 2 + 0) = _; omega) (hm _ List.mem_cons_self)) (cvp 47 (x' := ((ρ 2))) (y' := ((ρ 4) + 393216)) (by show 0 + (1 * ρ 2 + 0) = _; omega) (by show 393216 + (1 * ρ 4 + 0) = _; omega) (hm _ (List.mem_cons_of_mem _ List.mem_cons_self))) (cvp 46 (x' := ((ρ 2))) (y' := ((ρ 3))) (by show 0 + (1 * ρ 2 + 0) = _; omega) (by show 0 + (1 * ρ 3 + 0) = _; omega) (hm _ (List.mem_cons_of_mem _ (List.mem_cons_of_mem _ List.mem_cons_self)))) (cvp 79 (x' := (16 * (ρ 0) + 1)) (y' := ((ρ 5))) (by show 1 + (16 * ρ 0 + 0) = _; omega) (by show 0 + (1 * ρ 5 + 0) = _; omega) (hm _ (List.mem_cons_of_mem _ (List.mem_cons_of_mem _ (List.mem_cons_of_mem _ List.mem_cons_self))))) (cvp 79 (x' := (16 * (ρ 0) + 2)) (y' := ((ρ 6))) (by show 2 + (16 * ρ 0 + 0) = _; omega) (by show 0 + (1 * ρ 6 + 0) = _; omega) (hm _ (List.mem_cons_of_mem _ (List.mem_cons_of_mem _ (List.mem_cons_of_mem _ (List.mem_cons_of_mem _ List.mem_cons_self)))))) (cvp 79 (x' := (16 * (ρ 0) + 3)) (y' := ((ρ 7))) (by show 3 + (16 * ρ 0 + 0) = _; omega) (by show 0 + (1 * ρ 7 + 0) = _; omega) (hm _ (List.mem_cons_of_mem _ (List.mem_cons_of_mem _ (List.mem_cons_of_mem _ (List.mem_cons_of_mem _ (List.mem_cons_of_mem _ List.mem_cons_self))))))) (by have h := hF _ List.mem_cons_self; have h : 0 ≤ (-1) + ((-8) * ρ 4 + (1 * ρ 5 + (8 * ρ 6 + ((-1) * ρ 7 + 0)))) := h; omega) hG
  obtain ⟨k0, k1, -⟩ := H
  exact ⟨_, List.mem_cons_self, ρ, fun _ _ => rfl, (okM_c (pvp 53 (by show 0 + (4096 * ρ 0 + (1 * ρ 1 + 0)) = _; omega) (by show 149 + (256 * ρ 3 + 0) = _; omega) k0) (okM_c (pvp 79 (by show 4 + (16 * ρ 0 + 0) = _; omega) (by show 0 + (1 * ρ 4 + 0) = _; omega) k1) okM_n)), okB_n, okF_n⟩
-- ex148_1
theorem cr_251 (M : pM) (s0 s1 s2 s3 s4 s5 s6 s7 : Int) (b0 : 0 ≤ s0 ∧ s0 ≤ 1900) (b1 : 0 ≤ s1 ∧ s1 ≤ 950) (b2 : 0 ≤ s2 ∧ s2 ≤ 1900) (b3 : 0 ≤ s3 ∧ s3 ≤ 1900) (b4 : 0 ≤ s4 ∧ s4 ≤ 7) (b5 : 0 ≤ s5 ∧ s5 ≤ 7) (b6 : 0 ≤ s6 ∧ s6 ≤ 7) (b7 : 0 ≤ s7 ∧ s7 ≤ 7) (m0 : HP 53 (4096 * s0 + s1) (256 * s2 + 148) M) (m1 : HP 47 (s2) (s4 + 393216) M) (m2 : HP 46 (s2) (s3) M) (m3 : HP 79 (16 * s0 + 1) (s5) M) (m4 : HP 79 (16 * s0 + 2) (s6) M) (m5 : HP 79 (16 * s0 + 3) (s7) M) (f0 : 0 ≤ (8 * s4 + (-1) * s5 + (-8) * s6 + s7 - 1)) (hG : gI M) : (HP 53 (4096 * s0 + s1) (256 * s3 + 149) M ∧ HP 79 (16 * s0 + 4) (s4) M ∧ True) := by
  have hc : ∀ s : Nat × pM, qat (tm M) (4096 * s0 + s1) s → tK (tm M) (qps (tm M) s.1 4) = (s4 + 393216) → qck (tm M) s.1 s.2 9 4 = none := by
    intro s hs e
    have hp : s0.toNat = s.1 := by have := qat_p (P := s0) (l := s1) hs ⟨by omega, by omega, by omega⟩; omega
    have e1 := q79 (P := s0) (i := 1) m3 ⟨by omega, by decide⟩ (by omega)
    have e2 := q79 (P := s0) (i := 2) m4 ⟨by omega, by decide⟩ (by omega)
    have e3 := q79 (P := s0) (i := 3) m5 ⟨by omega, by decide⟩ (by omega)
    rw [hp] at e1 e2 e3
    have e4 : qvl (tm M) s.1 4 = s4 := by unfold qvl; omega
    show qcN 0 7 (if qvl (tm M) s.1 3 + 8 * qvl (tm M) s.1 4 = qvl (tm M) s.1 1 + 8 * qvl (tm M) s.1 2 then some 5 else none) (tK (tm M) (qps (tm M) s.1 4)) = _
    rw [e, qcN_x (by omega) (by omega)]
    exact if_neg (by omega)
  exact ⟨r_ex (K := 9) (j := 3) m0 m1 m2 ⟨by omega, by omega, by decide⟩ (by omega) (by decide) (fun s hs hE e => hc s hs e), r_va (P := s0) (l := s1) (K := 9) (j := 3) m0 m1 ⟨by omega, by omega, by omega⟩ ⟨by omega, by omega, by decide⟩ (by omega) (by omega), trivial⟩
theorem rul_251 : Rul r_251 := by
  refine ⟨fun _ ρ M hm hB hF hG => ?_, fun gi gv hg => (by cases hg)⟩
  have H := cr_251 M (ρ 0) (ρ 1) (ρ 2) (ρ 3) (ρ 4) (ρ 5) (ρ 6) (ρ 7) (hB _ List.mem_cons_self) (hB _ (List.mem_cons_of_mem _ List.mem_cons_self)) (hB _ (List.mem_cons_of_mem _ (List.mem_cons_of_mem _ List.mem_cons_self))) (hB _ (List.mem_cons_of_mem _ (List.mem_cons_of_mem _ (List.mem_cons_of_mem _ List.mem_cons_self)))) (hB _ (List.mem_cons_of_mem _ (List.mem_cons_of_mem _ (List.mem_cons_of_mem _ (List.mem_cons_of_mem _ List.mem_cons_self))))) (hB _ (List.mem_cons_of_mem _ (List.mem_cons_of_mem _ (List.mem_cons_of_mem _ (List.mem_cons_of_mem _ (List.mem_cons_of_mem _ List.mem_cons_self)))))) (hB _ (List.mem_cons_of_mem _ (List.mem_cons_of_mem _ (List.mem_cons_of_mem _ (List.mem_cons_of_mem _ (List.mem_cons_of_mem _ (List.mem_cons_of_mem _ List.mem_cons_self))))))) (hB _ (List.mem_cons_of_mem _ (List.mem_cons_of_mem _ (List.mem_cons_of_mem _ (List.mem_cons_of_mem _ (List.mem_cons_of_mem _ (List.mem_cons_of_mem _ (List.mem_cons_of_mem _ List.mem_cons_self)))))))) (cvp 53 (x' := (4096 * (ρ 0) + (ρ 1))) (y' := (256 * (ρ 2) + 148)) (by show 0 + (4096 * ρ 0 + (1 * ρ 1 + 0)) = _; omega) (by show 148 + (256 * ρ 2 + 0) = _; omega) (hm _ List.mem_cons_self)) (cvp 47 (x' := ((ρ 2))) (y' := ((ρ 4) + 393216)) (by show 0 + (1 * ρ 2 + 0) = _; omega) (by show 393216 + (1 * ρ 4 + 0) = _; omega) (hm _ (List.mem_cons_of_mem _ List.mem_cons_self))) (cvp 46 (x' := ((ρ 2))) (y' := ((ρ 3))) (by show 0 + (1 * ρ 2 + 0) = _; omega) (by show 0 + (1 * ρ 3 + 0) = _; omega) (hm _ (List.mem_cons_of_mem _ (List.mem_cons_of_mem _ List.mem_cons_self)))) (cvp 79 (x' := (16 * (ρ 0) + 1)) (y' := ((ρ 5))) (by show 1 + (16 * ρ 0 + 0) = _; omega) (by show 0 + (1 * ρ 5 + 0) = _; omega) (hm _ (List.mem_cons_of_mem _ (List.mem_cons_of_mem _ (List.mem_cons_of_mem _ List.mem_cons_self))))) (cvp 79 (x' := (16 * (ρ 0) + 2)) (y' := ((ρ 6))) (by show 2 + (16 * ρ 0 + 0) = _; omega) (by show 0 + (1 * ρ 6 + 0) = _; omega) (hm _ (List.mem_cons_of_mem _ (List.mem_cons_of_mem _ (List.mem_cons_of_mem _ (List.mem_cons_of_mem _ List.mem_cons_self)))))) (cvp 79 (x' := (16 * (ρ 0) + 3)) (y' := ((ρ 7))) (by show 3 + (16 * ρ 0 + 0) = _; omega) (by show 0 + (1 * ρ 7 + 0) = _; omega) (hm _ (List.mem_cons_of_mem _ (List.mem_cons_of_mem _ (List.mem_cons_of_mem _ (List.mem_cons_of_mem _ (List.mem_cons_of_mem _ List.mem_cons_self))))))) (by have h := hF _ List.mem_cons_self; have h : 0 ≤ (-1) + (8 * ρ 4 + ((-1) * ρ 5 + ((-8) * ρ 6 + (1 * ρ 7 + 0)))) := h; omega) hG
  obtain ⟨k0, k1, -⟩ := H
  exact ⟨_, List.mem_cons_self, ρ, fun _ _ => rfl, (okM_c (pvp 53 (by show 0 + (4096 * ρ 0 + (1 * ρ 1 + 0)) = _; omega) (by show 149 + (256 * ρ 3 + 0) = _; omega) k0) (okM_c (pvp 79 (by show 4 + (16 * ρ 0 + 0) = _; omega) (by show 0 + (1 * ρ 4 + 0) = _; omega) k1) okM_n)), okB_n, okF_n⟩
-- same
theorem cr_252 (M : pM) (s0 s1 s2 s3 s4 s5 s6 s7 : Int) (b0 : 0 ≤ s0 ∧ s0 ≤ 1900) (b1 : 0 ≤ s1 ∧ s1 ≤ 950) (b2 : 0 ≤ s2 ∧ s2 ≤ 1900) (b3 : 0 ≤ s3 ∧ s3 ≤ 1900) (b4 : 0 ≤ s4 ∧ s4 ≤ 7) (b5 : 0 ≤ s5 ∧ s5 ≤ 7) (b6 : 0 ≤ s6 ∧ s6 ≤ 7) (b7 : 0 ≤ s7 ∧ s7 ≤ 7) (m0 : HP 53 (4096 * s0 + s1) (256 * s2 + 148) M) (m1 : HP 47 (s2) (s4 + 393216) M) (m2 : HP 45 (s2) (s3) M) (m3 : HP 79 (16 * s0 + 1) (s5) M) (m4 : HP 79 (16 * s0 + 2) (s6) M) (m5 : HP 79 (16 * s0 + 3) (s7) M) (f0 : 0 ≤ ((-8) * s4 + s5 + 8 * s6 + (-1) * s7)) (f1 : 0 ≤ (8 * s4 + (-1) * s5 + (-8) * s6 + s7)) (hG : gI M) : (HP 66 (s3) (5 : Int) M ∧ True) := by
  have hc : ∀ s : Nat × pM, qat (tm M) (4096 * s0 + s1) s → tK (tm M) (qps (tm M) s.1 4) = (s4 + 393216) → qck (tm M) s.1 s.2 9 4 = some 5 := by
    intro s hs e
    have hp : s0.toNat = s.1 := by have := qat_p (P := s0) (l := s1) hs ⟨by omega, by omega, by omega⟩; omega
    have e1 := q79 (P := s0) (i := 1) m3 ⟨by omega, by decide⟩ (by omega)
    have e2 := q79 (P := s0) (i := 2) m4 ⟨by omega, by decide⟩ (by omega)
    have e3 := q79 (P := s0) (i := 3) m5 ⟨by omega, by decide⟩ (by omega)
    rw [hp] at e1 e2 e3
    have e4 : qvl (tm M) s.1 4 = s4 := by unfold qvl; omega
    show qcN 0 7 (if qvl (tm M) s.1 3 + 8 * qvl (tm M) s.1 4 = qvl (tm M) s.1 1 + 8 * qvl (tm M) s.1 2 then some 5 else none) (tK (tm M) (qps (tm M) s.1 4)) = _
    rw [e, qcN_x (by omega) (by omega)]
    exact if_pos (by omega)
  exact ⟨r_fl (K := 9) (j := 3) m0 m1 m2 ⟨by omega, by omega, by decide⟩ (fun s hs hE e => hc s hs e), trivial⟩
theorem rul_252 : Rul r_252 := by
  refine ⟨fun _ ρ M hm hB hF hG => ?_, fun gi gv hg => (by cases hg)⟩
  have H := cr_252 M (ρ 0) (ρ 1) (ρ 2) (ρ 3) (ρ 4) (ρ 5) (ρ 6) (ρ 7) (hB _ List.mem_cons_self) (hB _ (List.mem_cons_of_mem _ List.mem_cons_self)) (hB _ (List.mem_cons_of_mem _ (List.mem_cons_of_mem _ List.mem_cons_self))) (hB _ (List.mem_cons_of_mem _ (List.mem_cons_of_mem _ (List.mem_cons_of_mem _ List.mem_cons_self)))) (hB _ (List.mem_cons_of_mem _ (List.mem_cons_of_mem _ (List.mem_cons_of_mem _ (List.mem_cons_of_mem _ List.mem_cons_self))))) (hB _ (List.mem_cons_of_mem _ (List.mem_cons_of_mem _ (List.mem_cons_of_mem _ (List.mem_cons_of_mem _ (List.mem_cons_of_mem _ List.mem_cons_self)))))) (hB _ (List.mem_cons_of_mem _ (List.mem_cons_of_mem _ (List.mem_cons_of_mem _ (List.mem_cons_of_mem _ (List.mem_cons_of_mem _ (List.mem_cons_of_mem _ List.mem_cons_self))))))) (hB _ (List.mem_cons_of_mem _ (List.mem_cons_of_mem _ (List.mem_cons_of_mem _ (List.mem_cons_of_mem _ (List.mem_cons_of_mem _ (List.mem_cons_of_mem _ (List.mem_cons_of_mem _ List.mem_cons_self)))))))) (cvp 53 (x' := (4096 * (ρ 0) + (ρ 1))) (y' := (256 * (ρ 2) + 148)) (by show 0 + (4096 * ρ 0 + (1 * ρ 1 + 0)) = _; omega) (by show 148 + (256 * ρ 2 + 0) = _; omega) (hm _ List.mem_cons_self)) (cvp 47 (x' := ((ρ 2))) (y' := ((ρ 4) + 393216)) (by show 0 + (1 * ρ 2 + 0) = _; omega) (by show 393216 + (1 * ρ 4 + 0) = _; omega) (hm _ (List.mem_cons_of_mem _ List.mem_cons_self))) (cvp 45 (x' := ((ρ 2))) (y' := ((ρ 3))) (by show 0 + (1 * ρ 2 + 0) = _; omega) (by show 0 + (1 * ρ 3 + 0) = _; omega) (hm _ (List.mem_cons_of_mem _ (List.mem_cons_of_mem _ List.mem_cons_self)))) (cvp 79 (x' := (16 * (ρ 0) + 1)) (y' := ((ρ 5))) (by show 1 + (16 * ρ 0 + 0) = _; omega) (by show 0 + (1 * ρ 5 + 0) = _; omega) (hm _ (List.mem_cons_of_mem _ (List.mem_cons_of_mem _ (List.mem_cons_of_mem _ List.mem_cons_self))))) (cvp 79 (x' := (16 * (ρ 0) + 2)) (y' := ((ρ 6))) (by show 2 + (16 * ρ 0 + 0) = _; omega) (by show 0 + (1 * ρ 6 + 0) = _; omega) (hm _ (List.mem_cons_of_mem _ (List.mem_cons_of_mem _ (List.mem_cons_of_mem _ (List.mem_cons_of_mem _ List.mem_cons_self)))))) (cvp 79 (x' := (16 * (ρ 0) + 3)) (y' := ((ρ 7))) (by show 3 + (16 * ρ 0 + 0) = _; omega) (by show 0 + (1 * ρ 7 + 0) = _; omega) (hm _ (List.mem_cons_of_mem _ (List.mem_cons_of_mem _ (List.mem_cons_of_mem _ (List.mem_cons_of_mem _ (List.mem_cons_of_mem _ List.mem_cons_self))))))) (by have h := hF _ List.mem_cons_self; have h : 0 ≤ 0 + ((-8) * ρ 4 + (1 * ρ 5 + (8 * ρ 6 + ((-1) * ρ 7 + 0)))) := h; omega) (by have h := hF _ (List.mem_cons_of_mem _ List.mem_cons_self); have h : 0 ≤ 0 + (8 * ρ 4 + ((-1) * ρ 5 + ((-8) * ρ 6 + (1 * ρ 7 + 0)))) := h; omega) hG
  obtain ⟨k0, -⟩ := H
  exact ⟨_, List.mem_cons_self, ρ, fun _ _ => rfl, (okM_c (pvp 66 (by show 0 + (1 * ρ 3 + 0) = _; omega) (by show 5 + 0 = _; omega) k0) okM_n), okB_n, okF_n⟩
-- fk149
theorem cr_253 (M : pM) (s0 s1 s2 s3 s4 : Int) (b0 : 0 ≤ s0 ∧ s0 ≤ 1900) (b1 : 0 ≤ s1 ∧ s1 ≤ 950) (b2 : 0 ≤ s2 ∧ s2 ≤ 1900) (b3 : 0 ≤ s3 ∧ s3 ≤ 1900) (b4 : 256 ≤ s4 ∧ s4 ≤ 600000) (m0 : HP 53 (4096 * s0 + s1) (256 * s2 + 149) M) (m1 : HP 47 (s2) (s4) M) (m2 : HP 45 (s2) (s3) M) (f0 : 0 ≤ ((-1) * s4 + 393215)) (hG : gI M) : (HP 66 (s3) (2 : Int) M ∧ True) := by
  refine ⟨r_fl (K := 9) (j := 4) m0 m1 m2 ⟨by omega, by omega, by decide⟩ (fun s hs hE e => ?_), trivial⟩
  show qcN 1 99 none (tK (tm M) (qps (tm M) s.1 5)) = some 2
  rw [e]
  exact qcN_2 (by omega) (by omega)
theorem rul_253 : Rul r_253 := by
  refine ⟨fun _ ρ M hm hB hF hG => ?_, fun gi gv hg => (by cases hg)⟩
  have H := cr_253 M (ρ 0) (ρ 1) (ρ 2) (ρ 3) (ρ 4) (hB _ List.mem_cons_self) (hB _ (List.mem_cons_of_mem _ List.mem_cons_self)) (hB _ (List.mem_cons_of_mem _ (List.mem_cons_of_mem _ List.mem_cons_self))) (hB _ (List.mem_cons_of_mem _ (List.mem_cons_of_mem _ (List.mem_cons_of_mem _ List.mem_cons_self)))) (hB _ (List.mem_cons_of_mem _ (List.mem_cons_of_mem _ (List.mem_cons_of_mem _ (List.mem_cons_of_mem _ List.mem_cons_self))))) (cvp 53 (x' := (4096 * (ρ 0) + (ρ 1))) (y' := (256 * (ρ 2) + 149)) (by show 0 + (4096 * ρ 0 + (1 * ρ 1 + 0)) = _; omega) (by show 149 + (256 * ρ 2 + 0) = _; omega) (hm _ List.mem_cons_self)) (cvp 47 (x' := ((ρ 2))) (y' := ((ρ 4))) (by show 0 + (1 * ρ 2 + 0) = _; omega) (by show 0 + (1 * ρ 4 + 0) = _; omega) (hm _ (List.mem_cons_of_mem _ List.mem_cons_self))) (cvp 45 (x' := ((ρ 2))) (y' := ((ρ 3))) (by show 0 + (1 * ρ 2 + 0) = _; omega) (by show 0 + (1 * ρ 3 + 0) = _; omega) (hm _ (List.mem_cons_of_mem _ (List.mem_cons_of_mem _ List.mem_cons_self)))) (by have h := hF _ List.mem_cons_self; have h : 0 ≤ 393215 + ((-1) * ρ 4 + 0) := h; omega) hG
  obtain ⟨k0, -⟩ := H
  exact ⟨_, List.mem_cons_self, ρ, fun _ _ => rfl, (okM_c (pvp 66 (by show 0 + (1 * ρ 3 + 0) = _; omega) (by show 2 + 0 = _; omega) k0) okM_n), okB_n, okF_n⟩
-- fl149
theorem cr_254 (M : pM) (s0 s1 s2 s3 s4 : Int) (b0 : 0 ≤ s0 ∧ s0 ≤ 1900) (b1 : 0 ≤ s1 ∧ s1 ≤ 950) (b2 : 0 ≤ s2 ∧ s2 ≤ 1900) (b3 : 0 ≤ s3 ∧ s3 ≤ 1900) (b4 : 256 ≤ s4 ∧ s4 ≤ 600000) (m0 : HP 53 (4096 * s0 + s1) (256 * s2 + 149) M) (m1 : HP 47 (s2) (s4) M) (m2 : HP 45 (s2) (s3) M) (f0 : 0 ≤ (s4 - 403216)) (hG : gI M) : (HP 66 (s3) (2 : Int) M ∧ True) := by
  refine ⟨r_fl (K := 9) (j := 4) m0 m1 m2 ⟨by omega, by omega, by decide⟩ (fun s hs hE e => ?_), trivial⟩
  show qcN 1 99 none (tK (tm M) (qps (tm M) s.1 5)) = some 2
  rw [e]
  exact qcN_2 (by omega) (by omega)
theorem rul_254 : Rul r_254 := by
  refine ⟨fun _ ρ M hm hB hF hG => ?_, fun gi gv hg => (by cases hg)⟩
  have H := cr_254 M (ρ 0) (ρ 1) (ρ 2) (ρ 3) (ρ 4) (hB _ List.mem_cons_self) (hB _ (List.mem_cons_of_mem _ List.mem_cons_self)) (hB _ (List.mem_cons_of_mem _ (List.mem_cons_of_mem _ List.mem_cons_self))) (hB _ (List.mem_cons_of_mem _ (List.mem_cons_of_mem _ (List.mem_cons_of_mem _ List.mem_cons_self)))) (hB _ (List.mem_cons_of_mem _ (List.mem_cons_of_mem _ (List.mem_cons_of_mem _ (List.mem_cons_of_mem _ List.mem_cons_self))))) (cvp 53 (x' := (4096 * (ρ 0) + (ρ 1))) (y' := (256 * (ρ 2) + 149)) (by show 0 + (4096 * ρ 0 + (1 * ρ 1 + 0)) = _; omega) (by show 149 + (256 * ρ 2 + 0) = _; omega) (hm _ List.mem_cons_self)) (cvp 47 (x' := ((ρ 2))) (y' := ((ρ 4))) (by show 0 + (1 * ρ 2 + 0) = _; omega) (by show 0 + (1 * ρ 4 + 0) = _; omega) (hm _ (List.mem_cons_of_mem _ List.mem_cons_self))) (cvp 45 (x' := ((ρ 2))) (y' := ((ρ 3))) (by show 0 + (1 * ρ 2 + 0) = _; omega) (by show 0 + (1 * ρ 3 + 0) = _; omega) (hm _ (List.mem_cons_of_mem _ (List.mem_cons_of_mem _ List.mem_cons_self)))) (by have h := hF _ List.mem_cons_self; have h : 0 ≤ (-403216) + (1 * ρ 4 + 0) := h; omega) hG
  obtain ⟨k0, -⟩ := H
  exact ⟨_, List.mem_cons_self, ρ, fun _ _ => rfl, (okM_c (pvp 66 (by show 0 + (1 * ρ 3 + 0) = _; omega) (by show 2 + 0 = _; omega) k0) okM_n), okB_n, okF_n⟩
-- fm149
theorem cr_255 (M : pM) (s0 s1 s2 s3 s4 : Int) (b0 : 0 ≤ s0 ∧ s0 ≤ 1900) (b1 : 0 ≤ s1 ∧ s1 ≤ 950) (b2 : 0 ≤ s2 ∧ s2 ≤ 1900) (b3 : 0 ≤ s3 ∧ s3 ≤ 1900) (b4 : 0 ≤ s4 ∧ s4 ≤ 9999) (m0 : HP 53 (4096 * s0 + s1) (256 * s2 + 149) M) (m1 : HP 47 (s2) (s4 + 393216) M) (m2 : HP 45 (s2) (s3) M) (f0 : 0 ≤ ((-1) * s4)) (hG : gI M) : (HP 66 (s3) (4 : Int) M ∧ True) := by
  refine ⟨r_fl (K := 9) (j := 4) m0 m1 m2 ⟨by omega, by omega, by decide⟩ (fun s hs hE e => ?_), trivial⟩
  show qcN 1 99 none (tK (tm M) (qps (tm M) s.1 5)) = some 4
  rw [e]
  exact qcN_4 (by omega) (Or.inl (by omega))
theorem rul_255 : Rul r_255 := by
  refine ⟨fun _ ρ M hm hB hF hG => ?_, fun gi gv hg => (by cases hg)⟩
  have H := cr_255 M (ρ 0) (ρ 1) (ρ 2) (ρ 3) (ρ 4) (hB _ List.mem_cons_self) (hB _ (List.mem_cons_of_mem _ List.mem_cons_self)) (hB _ (List.mem_cons_of_mem _ (List.mem_cons_of_mem _ List.mem_cons_self))) (hB _ (List.mem_cons_of_mem _ (List.mem_cons_of_mem _ (List.mem_cons_of_mem _ List.mem_cons_self)))) (hB _ (List.mem_cons_of_mem _ (List.mem_cons_of_mem _ (List.mem_cons_of_mem _ (List.mem_cons_of_mem _ List.mem_cons_self))))) (cvp 53 (x' := (4096 * (ρ 0) + (ρ 1))) (y' := (256 * (ρ 2) + 149)) (by show 0 + (4096 * ρ 0 + (1 * ρ 1 + 0)) = _; omega) (by show 149 + (256 * ρ 2 + 0) = _; omega) (hm _ List.mem_cons_self)) (cvp 47 (x' := ((ρ 2))) (y' := ((ρ 4) + 393216)) (by show 0 + (1 * ρ 2 + 0) = _; omega) (by show 393216 + (1 * ρ 4 + 0) = _; omega) (hm _ (List.mem_cons_of_mem _ List.mem_cons_self))) (cvp 45 (x' := ((ρ 2))) (y' := ((ρ 3))) (by show 0 + (1 * ρ 2 + 0) = _; omega) (by show 0 + (1 * ρ 3 + 0) = _; omega) (hm _ (List.mem_cons_of_mem _ (List.mem_cons_of_mem _ List.mem_cons_self)))) (by have h := hF _ List.mem_cons_self; have h : 0 ≤ 0 + ((-1) * ρ 4 + 0) := h; omega) hG
  obtain ⟨k0, -⟩ := H
  exact ⟨_, List.mem_cons_self, ρ, fun _ _ => rfl, (okM_c (pvp 66 (by show 0 + (1 * ρ 3 + 0) = _; omega) (by show 4 + 0 = _; omega) k0) okM_n), okB_n, okF_n⟩
-- fn149
theorem cr_256 (M : pM) (s0 s1 s2 s3 s4 : Int) (b0 : 0 ≤ s0 ∧ s0 ≤ 1900) (b1 : 0 ≤ s1 ∧ s1 ≤ 950) (b2 : 0 ≤ s2 ∧ s2 ≤ 1900) (b3 : 0 ≤ s3 ∧ s3 ≤ 1900) (b4 : 0 ≤ s4 ∧ s4 ≤ 9999) (m0 : HP 53 (4096 * s0 + s1) (256 * s2 + 149) M) (m1 : HP 47 (s2) (s4 + 393216) M) (m2 : HP 45 (s2) (s3) M) (f0 : 0 ≤ (s4 - 100)) (hG : gI M) : (HP 66 (s3) (4 : Int) M ∧ True) := by
  refine ⟨r_fl (K := 9) (j := 4) m0 m1 m2 ⟨by omega, by omega, by decide⟩ (fun s hs hE e => ?_), trivial⟩
  show qcN 1 99 none (tK (tm M) (qps (tm M) s.1 5)) = some 4
  rw [e]
  exact qcN_4 (by omega) (Or.inr (by omega))
theorem rul_256 : Rul r_256 := by
  refine ⟨fun _ ρ M hm hB hF hG => ?_, fun gi gv hg => (by cases hg)⟩
  have H := cr_256 M (ρ 0) (ρ 1) (ρ 2) (ρ 3) (ρ 4) (hB _ List.mem_cons_self) (hB _ (List.mem_cons_of_mem _ List.mem_cons_self)) (hB _ (List.mem_cons_of_mem _ (List.mem_cons_of_mem _ List.mem_cons_self))) (hB _ (List.mem_cons_of_mem _ (List.mem_cons_of_mem _ (List.mem_cons_of_mem _ List.mem_cons_self)))) (hB _ (List.mem_cons_of_mem _ (List.mem_cons_of_mem _ (List.mem_cons_of_mem _ (List.mem_cons_of_mem _ List.mem_cons_self))))) (cvp 53 (x' := (4096 * (ρ 0) + (ρ 1))) (y' := (256 * (ρ 2) + 149)) (by show 0 + (4096 * ρ 0 + (1 * ρ 1 + 0)) = _; omega) (by show 149 + (256 * ρ 2 + 0) = _; omega) (hm _ List.mem_cons_self)) (cvp 47 (x' := ((ρ 2))) (y' := ((ρ 4) + 393216)) (by show 0 + (1 * ρ 2 + 0) = _; omega) (by show 393216 + (1 * ρ 4 + 0) = _; omega) (hm _ (List.mem_cons_of_mem _ List.mem_cons_self))) (cvp 45 (x' := ((ρ 2))) (y' := ((ρ 3))) (by show 0 + (1 * ρ 2 + 0) = _; omega) (by show 0 + (1 * ρ 3 + 0) = _; omega) (hm _ (List.mem_cons_of_mem _ (List.mem_cons_of_mem _ List.mem_cons_self)))) (by have h := hF _ List.mem_cons_self; have h : 0 ≤ (-100) + (1 * ρ 4 + 0) := h; omega) hG
  obtain ⟨k0, -⟩ := H
  exact ⟨_, List.mem_cons_self, ρ, fun _ _ => rfl, (okM_c (pvp 66 (by show 0 + (1 * ρ 3 + 0) = _; omega) (by show 4 + 0 = _; omega) k0) okM_n), okB_n, okF_n⟩
-- ex149
theorem cr_257 (M : pM) (s0 s1 s2 s3 s4 : Int) (b0 : 0 ≤ s0 ∧ s0 ≤ 1900) (b1 : 0 ≤ s1 ∧ s1 ≤ 950) (b2 : 0 ≤ s2 ∧ s2 ≤ 1900) (b3 : 0 ≤ s3 ∧ s3 ≤ 1900) (b4 : 0 ≤ s4 ∧ s4 ≤ 9999) (m0 : HP 53 (4096 * s0 + s1) (256 * s2 + 149) M) (m1 : HP 47 (s2) (s4 + 393216) M) (m2 : HP 46 (s2) (s3) M) (f0 : 0 ≤ (s4 - 1)) (f1 : 0 ≤ ((-1) * s4 + 99)) (hG : gI M) : (HP 53 (4096 * s0 + s1) (256 * s3 + 150) M ∧ HP 79 (16 * s0 + 5) (s4) M ∧ True) := by
  refine ⟨?_, ?_, trivial⟩
  · exact r_ex (K := 9) (j := 4) m0 m1 m2 ⟨by omega, by omega, by decide⟩ (by omega) (by decide) (fun s hs hE e => by
        show qcN 1 99 none (tK (tm M) (qps (tm M) s.1 5)) = none
        rw [e]
        exact qcN_x (by omega) (by omega))
  · exact r_va (P := s0) (l := s1) (K := 9) (j := 4) m0 m1 ⟨by omega, by omega, by omega⟩ ⟨by omega, by omega, by decide⟩ (by omega) (by omega)
theorem rul_257 : Rul r_257 := by
  refine ⟨fun _ ρ M hm hB hF hG => ?_, fun gi gv hg => (by cases hg)⟩
  have H := cr_257 M (ρ 0) (ρ 1) (ρ 2) (ρ 3) (ρ 4) (hB _ List.mem_cons_self) (hB _ (List.mem_cons_of_mem _ List.mem_cons_self)) (hB _ (List.mem_cons_of_mem _ (List.mem_cons_of_mem _ List.mem_cons_self))) (hB _ (List.mem_cons_of_mem _ (List.mem_cons_of_mem _ (List.mem_cons_of_mem _ List.mem_cons_self)))) (hB _ (List.mem_cons_of_mem _ (List.mem_cons_of_mem _ (List.mem_cons_of_mem _ (List.mem_cons_of_mem _ List.mem_cons_self))))) (cvp 53 (x' := (4096 * (ρ 0) + (ρ 1))) (y' := (256 * (ρ 2) + 149)) (by show 0 + (4096 * ρ 0 + (1 * ρ 1 + 0)) = _; omega) (by show 149 + (256 * ρ 2 + 0) = _; omega) (hm _ List.mem_cons_self)) (cvp 47 (x' := ((ρ 2))) (y' := ((ρ 4) + 393216)) (by show 0 + (1 * ρ 2 + 0) = _; omega) (by show 393216 + (1 * ρ 4 + 0) = _; omega) (hm _ (List.mem_cons_of_mem _ List.mem_cons_self))) (cvp 46 (x' := ((ρ 2))) (y' := ((ρ 3))) (by show 0 + (1 * ρ 2 + 0) = _; omega) (by show 0 + (1 * ρ 3 + 0) = _; omega) (hm _ (List.mem_cons_of_mem _ (List.mem_cons_of_mem _ List.mem_cons_self)))) (by have h := hF _ List.mem_cons_self; have h : 0 ≤ (-1) + (1 * ρ 4 + 0) := h; omega) (by have h := hF _ (List.mem_cons_of_mem _ List.mem_cons_self); have h : 0 ≤ 99 + ((-1) * ρ 4 + 0) := h; omega) hG
  obtain ⟨k0, k1, -⟩ := H
  exact ⟨_, List.mem_cons_self, ρ, fun _ _ => rfl, (okM_c (pvp 53 (by show 0 + (4096 * ρ 0 + (1 * ρ 1 + 0)) = _; omega) (by show 150 + (256 * ρ 3 + 0) = _; omega) k0) (okM_c (pvp 79 (by show 5 + (16 * ρ 0 + 0) = _; omega) (by show 0 + (1 * ρ 4 + 0) = _; omega) k1) okM_n)), okB_n, okF_n⟩
-- ln9
theorem cr_258 (M : pM) (s0 s1 s2 : Int) (b0 : 0 ≤ s0 ∧ s0 ≤ 1900) (b1 : 0 ≤ s1 ∧ s1 ≤ 950) (b2 : 0 ≤ s2 ∧ s2 ≤ 1900) (m0 : HP 53 (4096 * s0 + s1) (256 * s2 + 150) M) (hG : gI M) : (HP 89 (4096 * s0 + s1) (s2) M ∧ True) := by
  obtain ⟨s, h1, h2⟩ := ex_o (K := 9) (j := 5) (a := s2) (Eq.mp hp_53 m0) ⟨by omega, by omega, by decide, by decide⟩
  exact ⟨Eq.mpr hp_89 ⟨s, 9, h1, ⟨h2.2.2.1, h2.2.2.2.1⟩, h2.2.2.2.2⟩, trivial⟩
theorem rul_258 : Rul r_258 := by
  refine ⟨fun _ ρ M hm hB hF hG => ?_, fun gi gv hg => (by cases hg)⟩
  have H := cr_258 M (ρ 0) (ρ 1) (ρ 2) (hB _ List.mem_cons_self) (hB _ (List.mem_cons_of_mem _ List.mem_cons_self)) (hB _ (List.mem_cons_of_mem _ (List.mem_cons_of_mem _ List.mem_cons_self))) (cvp 53 (x' := (4096 * (ρ 0) + (ρ 1))) (y' := (256 * (ρ 2) + 150)) (by show 0 + (4096 * ρ 0 + (1 * ρ 1 + 0)) = _; omega) (by show 150 + (256 * ρ 2 + 0) = _; omega) (hm _ List.mem_cons_self)) hG
  obtain ⟨k0, -⟩ := H
  exact ⟨_, List.mem_cons_self, ρ, fun _ _ => rfl, (okM_c (pvp 89 (by show 0 + (4096 * ρ 0 + (1 * ρ 1 + 0)) = _; omega) (by show 0 + (1 * ρ 2 + 0) = _; omega) k0) okM_n), okB_n, okF_n⟩
-- fk161
theorem cr_259 (M : pM) (s0 s1 s2 s3 s4 : Int) (b0 : 0 ≤ s0 ∧ s0 ≤ 1900) (b1 : 0 ≤ s1 ∧ s1 ≤ 950) (b2 : 0 ≤ s2 ∧ s2 ≤ 1900) (b3 : 0 ≤ s3 ∧ s3 ≤ 1900) (b4 : 256 ≤ s4 ∧ s4 ≤ 600000) (m0 : HP 53 (4096 * s0 + s1) (256 * s2 + 161) M) (m1 : HP 47 (s2) (s4) M) (m2 : HP 45 (s2) (s3) M) (f0 : 0 ≤ ((-1) * s4 + 262142)) (hG : gI M) : (HP 66 (s3) (2 : Int) M ∧ True) := by
  refine ⟨r_fl (K := 10) (j := 0) m0 m1 m2 ⟨by omega, by omega, by decide⟩ (fun s hs hE e => ?_), trivial⟩
  show (if (tK (tm M) (qps (tm M) s.1 1)) ≤ 255 then some 1 else if (tK (tm M) (qps (tm M) s.1 1)) = 262143 then (if qtn (tm M) s.1 s.2 = true then some 3 else none) else some 2) = some 2
  rw [e]
  rw [if_neg (by omega), if_neg (by omega)]
theorem rul_259 : Rul r_259 := by
  refine ⟨fun _ ρ M hm hB hF hG => ?_, fun gi gv hg => (by cases hg)⟩
  have H := cr_259 M (ρ 0) (ρ 1) (ρ 2) (ρ 3) (ρ 4) (hB _ List.mem_cons_self) (hB _ (List.mem_cons_of_mem _ List.mem_cons_self)) (hB _ (List.mem_cons_of_mem _ (List.mem_cons_of_mem _ List.mem_cons_self))) (hB _ (List.mem_cons_of_mem _ (List.mem_cons_of_mem _ (List.mem_cons_of_mem _ List.mem_cons_self)))) (hB _ (List.mem_cons_of_mem _ (List.mem_cons_of_mem _ (List.mem_cons_of_mem _ (List.mem_cons_of_mem _ List.mem_cons_self))))) (cvp 53 (x' := (4096 * (ρ 0) + (ρ 1))) (y' := (256 * (ρ 2) + 161)) (by show 0 + (4096 * ρ 0 + (1 * ρ 1 + 0)) = _; omega) (by show 161 + (256 * ρ 2 + 0) = _; omega) (hm _ List.mem_cons_self)) (cvp 47 (x' := ((ρ 2))) (y' := ((ρ 4))) (by show 0 + (1 * ρ 2 + 0) = _; omega) (by show 0 + (1 * ρ 4 + 0) = _; omega) (hm _ (List.mem_cons_of_mem _ List.mem_cons_self))) (cvp 45 (x' := ((ρ 2))) (y' := ((ρ 3))) (by show 0 + (1 * ρ 2 + 0) = _; omega) (by show 0 + (1 * ρ 3 + 0) = _; omega) (hm _ (List.mem_cons_of_mem _ (List.mem_cons_of_mem _ List.mem_cons_self)))) (by have h := hF _ List.mem_cons_self; have h : 0 ≤ 262142 + ((-1) * ρ 4 + 0) := h; omega) hG
  obtain ⟨k0, -⟩ := H
  exact ⟨_, List.mem_cons_self, ρ, fun _ _ => rfl, (okM_c (pvp 66 (by show 0 + (1 * ρ 3 + 0) = _; omega) (by show 2 + 0 = _; omega) k0) okM_n), okB_n, okF_n⟩
-- fl161
theorem cr_260 (M : pM) (s0 s1 s2 s3 s4 : Int) (b0 : 0 ≤ s0 ∧ s0 ≤ 1900) (b1 : 0 ≤ s1 ∧ s1 ≤ 950) (b2 : 0 ≤ s2 ∧ s2 ≤ 1900) (b3 : 0 ≤ s3 ∧ s3 ≤ 1900) (b4 : 256 ≤ s4 ∧ s4 ≤ 600000) (m0 : HP 53 (4096 * s0 + s1) (256 * s2 + 161) M) (m1 : HP 47 (s2) (s4) M) (m2 : HP 45 (s2) (s3) M) (f0 : 0 ≤ (s4 - 262144)) (hG : gI M) : (HP 66 (s3) (2 : Int) M ∧ True) := by
  refine ⟨r_fl (K := 10) (j := 0) m0 m1 m2 ⟨by omega, by omega, by decide⟩ (fun s hs hE e => ?_), trivial⟩
  show (if (tK (tm M) (qps (tm M) s.1 1)) ≤ 255 then some 1 else if (tK (tm M) (qps (tm M) s.1 1)) = 262143 then (if qtn (tm M) s.1 s.2 = true then some 3 else none) else some 2) = some 2
  rw [e]
  rw [if_neg (by omega), if_neg (by omega)]
theorem rul_260 : Rul r_260 := by
  refine ⟨fun _ ρ M hm hB hF hG => ?_, fun gi gv hg => (by cases hg)⟩
  have H := cr_260 M (ρ 0) (ρ 1) (ρ 2) (ρ 3) (ρ 4) (hB _ List.mem_cons_self) (hB _ (List.mem_cons_of_mem _ List.mem_cons_self)) (hB _ (List.mem_cons_of_mem _ (List.mem_cons_of_mem _ List.mem_cons_self))) (hB _ (List.mem_cons_of_mem _ (List.mem_cons_of_mem _ (List.mem_cons_of_mem _ List.mem_cons_self)))) (hB _ (List.mem_cons_of_mem _ (List.mem_cons_of_mem _ (List.mem_cons_of_mem _ (List.mem_cons_of_mem _ List.mem_cons_self))))) (cvp 53 (x' := (4096 * (ρ 0) + (ρ 1))) (y' := (256 * (ρ 2) + 161)) (by show 0 + (4096 * ρ 0 + (1 * ρ 1 + 0)) = _; omega) (by show 161 + (256 * ρ 2 + 0) = _; omega) (hm _ List.mem_cons_self)) (cvp 47 (x' := ((ρ 2))) (y' := ((ρ 4))) (by show 0 + (1 * ρ 2 + 0) = _; omega) (by show 0 + (1 * ρ 4 + 0) = _; omega) (hm _ (List.mem_cons_of_mem _ List.mem_cons_self))) (cvp 45 (x' := ((ρ 2))) (y' := ((ρ 3))) (by show 0 + (1 * ρ 2 + 0) = _; omega) (by show 0 + (1 * ρ 3 + 0) = _; omega) (hm _ (List.mem_cons_of_mem _ (List.mem_cons_of_mem _ List.mem_cons_self)))) (by have h := hF _ List.mem_cons_self; have h : 0 ≤ (-262144) + (1 * ρ 4 + 0) := h; omega) hG
  obtain ⟨k0, -⟩ := H
  exact ⟨_, List.mem_cons_self, ρ, fun _ _ => rfl, (okM_c (pvp 66 (by show 0 + (1 * ρ 3 + 0) = _; omega) (by show 2 + 0 = _; omega) k0) okM_n), okB_n, okF_n⟩
-- ex162
theorem cr_261 (M : pM) (s0 s1 s2 s3 : Int) (b0 : 0 ≤ s0 ∧ s0 ≤ 1900) (b1 : 0 ≤ s1 ∧ s1 ≤ 950) (b2 : 0 ≤ s2 ∧ s2 ≤ 1900) (b3 : 0 ≤ s3 ∧ s3 ≤ 1900) (m0 : HP 53 (4096 * s0 + s1) (256 * s2 + 162) M) (m1 : HP 47 (s2) (262155 : Int) M) (m2 : HP 46 (s2) (s3) M) (hG : gI M) : (HP 53 (4096 * s0 + s1) (256 * s3 + 163) M ∧ True) := by
  refine ⟨?_, trivial⟩
  · exact r_ex (K := 10) (j := 1) m0 m1 m2 ⟨by omega, by omega, by decide⟩ (by omega) (by decide) (fun s hs hE e => by
        show qcK 262155 (tK (tm M) (qps (tm M) s.1 2)) = none
        rw [e]
        exact qcK_x (by omega) (by omega))
theorem rul_261 : Rul r_261 := by
  refine ⟨fun _ ρ M hm hB hF hG => ?_, fun gi gv hg => (by cases hg)⟩
  have H := cr_261 M (ρ 0) (ρ 1) (ρ 2) (ρ 3) (hB _ List.mem_cons_self) (hB _ (List.mem_cons_of_mem _ List.mem_cons_self)) (hB _ (List.mem_cons_of_mem _ (List.mem_cons_of_mem _ List.mem_cons_self))) (hB _ (List.mem_cons_of_mem _ (List.mem_cons_of_mem _ (List.mem_cons_of_mem _ List.mem_cons_self)))) (cvp 53 (x' := (4096 * (ρ 0) + (ρ 1))) (y' := (256 * (ρ 2) + 162)) (by show 0 + (4096 * ρ 0 + (1 * ρ 1 + 0)) = _; omega) (by show 162 + (256 * ρ 2 + 0) = _; omega) (hm _ List.mem_cons_self)) (cvp 47 (x' := ((ρ 2))) (y' := (262155 : Int)) (by show 0 + (1 * ρ 2 + 0) = _; omega) (by show 262155 + 0 = _; omega) (hm _ (List.mem_cons_of_mem _ List.mem_cons_self))) (cvp 46 (x' := ((ρ 2))) (y' := ((ρ 3))) (by show 0 + (1 * ρ 2 + 0) = _; omega) (by show 0 + (1 * ρ 3 + 0) = _; omega) (hm _ (List.mem_cons_of_mem _ (List.mem_cons_of_mem _ List.mem_cons_self)))) hG
  obtain ⟨k0, -⟩ := H
  exact ⟨_, List.mem_cons_self, ρ, fun _ _ => rfl, (okM_c (pvp 53 (by show 0 + (4096 * ρ 0 + (1 * ρ 1 + 0)) = _; omega) (by show 163 + (256 * ρ 3 + 0) = _; omega) k0) okM_n), okB_n, okF_n⟩
-- fk162
theorem cr_262 (M : pM) (s0 s1 s2 s3 s4 : Int) (b0 : 0 ≤ s0 ∧ s0 ≤ 1900) (b1 : 0 ≤ s1 ∧ s1 ≤ 950) (b2 : 0 ≤ s2 ∧ s2 ≤ 1900) (b3 : 0 ≤ s3 ∧ s3 ≤ 1900) (b4 : 256 ≤ s4 ∧ s4 ≤ 600000) (m0 : HP 53 (4096 * s0 + s1) (256 * s2 + 162) M) (m1 : HP 47 (s2) (s4) M) (m2 : HP 45 (s2) (s3) M) (f0 : 0 ≤ ((-1) * s4 + 262154)) (hG : gI M) : (HP 66 (s3) (2 : Int) M ∧ True) := by
  refine ⟨r_fl (K := 10) (j := 1) m0 m1 m2 ⟨by omega, by omega, by decide⟩ (fun s hs hE e => ?_), trivial⟩
  show qcK 262155 (tK (tm M) (qps (tm M) s.1 2)) = some 2
  rw [e]
  exact qcK_2 (by omega) (by omega)
theorem rul_262 : Rul r_262 := by
  refine ⟨fun _ ρ M hm hB hF hG => ?_, fun gi gv hg => (by cases hg)⟩
  have H := cr_262 M (ρ 0) (ρ 1) (ρ 2) (ρ 3) (ρ 4) (hB _ List.mem_cons_self) (hB _ (List.mem_cons_of_mem _ List.mem_cons_self)) (hB _ (List.mem_cons_of_mem _ (List.mem_cons_of_mem _ List.mem_cons_self))) (hB _ (List.mem_cons_of_mem _ (List.mem_cons_of_mem _ (List.mem_cons_of_mem _ List.mem_cons_self)))) (hB _ (List.mem_cons_of_mem _ (List.mem_cons_of_mem _ (List.mem_cons_of_mem _ (List.mem_cons_of_mem _ List.mem_cons_self))))) (cvp 53 (x' := (4096 * (ρ 0) + (ρ 1))) (y' := (256 * (ρ 2) + 162)) (by show 0 + (4096 * ρ 0 + (1 * ρ 1 + 0)) = _; omega) (by show 162 + (256 * ρ 2 + 0) = _; omega) (hm _ List.mem_cons_self)) (cvp 47 (x' := ((ρ 2))) (y' := ((ρ 4))) (by show 0 + (1 * ρ 2 + 0) = _; omega) (by show 0 + (1 * ρ 4 + 0) = _; omega) (hm _ (List.mem_cons_of_mem _ List.mem_cons_self))) (cvp 45 (x' := ((ρ 2))) (y' := ((ρ 3))) (by show 0 + (1 * ρ 2 + 0) = _; omega) (by show 0 + (1 * ρ 3 + 0) = _; omega) (hm _ (List.mem_cons_of_mem _ (List.mem_cons_of_mem _ List.mem_cons_self)))) (by have h := hF _ List.mem_cons_self; have h : 0 ≤ 262154 + ((-1) * ρ 4 + 0) := h; omega) hG
  obtain ⟨k0, -⟩ := H
  exact ⟨_, List.mem_cons_self, ρ, fun _ _ => rfl, (okM_c (pvp 66 (by show 0 + (1 * ρ 3 + 0) = _; omega) (by show 2 + 0 = _; omega) k0) okM_n), okB_n, okF_n⟩
-- fl162
theorem cr_263 (M : pM) (s0 s1 s2 s3 s4 : Int) (b0 : 0 ≤ s0 ∧ s0 ≤ 1900) (b1 : 0 ≤ s1 ∧ s1 ≤ 950) (b2 : 0 ≤ s2 ∧ s2 ≤ 1900) (b3 : 0 ≤ s3 ∧ s3 ≤ 1900) (b4 : 256 ≤ s4 ∧ s4 ≤ 600000) (m0 : HP 53 (4096 * s0 + s1) (256 * s2 + 162) M) (m1 : HP 47 (s2) (s4) M) (m2 : HP 45 (s2) (s3) M) (f0 : 0 ≤ (s4 - 262156)) (hG : gI M) : (HP 66 (s3) (2 : Int) M ∧ True) := by
  refine ⟨r_fl (K := 10) (j := 1) m0 m1 m2 ⟨by omega, by omega, by decide⟩ (fun s hs hE e => ?_), trivial⟩
  show qcK 262155 (tK (tm M) (qps (tm M) s.1 2)) = some 2
  rw [e]
  exact qcK_2 (by omega) (by omega)
theorem rul_263 : Rul r_263 := by
  refine ⟨fun _ ρ M hm hB hF hG => ?_, fun gi gv hg => (by cases hg)⟩
  have H := cr_263 M (ρ 0) (ρ 1) (ρ 2) (ρ 3) (ρ 4) (hB _ List.mem_cons_self) (hB _ (List.mem_cons_of_mem _ List.mem_cons_self)) (hB _ (List.mem_cons_of_mem _ (List.mem_cons_of_mem _ List.mem_cons_self))) (hB _ (List.mem_cons_of_mem _ (List.mem_cons_of_mem _ (List.mem_cons_of_mem _ List.mem_cons_self)))) (hB _ (List.mem_cons_of_mem _ (List.mem_cons_of_mem _ (List.mem_cons_of_mem _ (List.mem_cons_of_mem _ List.mem_cons_self))))) (cvp 53 (x' := (4096 * (ρ 0) + (ρ 1))) (y' := (256 * (ρ 2) + 162)) (by show 0 + (4096 * ρ 0 + (1 * ρ 1 + 0)) = _; omega) (by show 162 + (256 * ρ 2 + 0) = _; omega) (hm _ List.mem_cons_self)) (cvp 47 (x' := ((ρ 2))) (y' := ((ρ 4))) (by show 0 + (1 * ρ 2 + 0) = _; omega) (by show 0 + (1 * ρ 4 + 0) = _; omega) (hm _ (List.mem_cons_of_mem _ List.mem_cons_self))) (cvp 45 (x' := ((ρ 2))) (y' := ((ρ 3))) (by show 0 + (1 * ρ 2 + 0) = _; omega) (by show 0 + (1 * ρ 3 + 0) = _; omega) (hm _ (List.mem_cons_of_mem _ (List.mem_cons_of_mem _ List.mem_cons_self)))) (by have h := hF _ List.mem_cons_self; have h : 0 ≤ (-262156) + (1 * ρ 4 + 0) := h; omega) hG
  obtain ⟨k0, -⟩ := H
  exact ⟨_, List.mem_cons_self, ρ, fun _ _ => rfl, (okM_c (pvp 66 (by show 0 + (1 * ρ 3 + 0) = _; omega) (by show 2 + 0 = _; omega) k0) okM_n), okB_n, okF_n⟩
-- fk163
theorem cr_264 (M : pM) (s0 s1 s2 s3 s4 s5 : Int) (b0 : 0 ≤ s0 ∧ s0 ≤ 1900) (b1 : 0 ≤ s1 ∧ s1 ≤ 950) (b2 : 0 ≤ s2 ∧ s2 ≤ 1900) (b3 : 0 ≤ s3 ∧ s3 ≤ 1900) (b4 : 256 ≤ s4 ∧ s4 ≤ 600000) (b5 : 0 ≤ s5 ∧ s5 ≤ 3) (m0 : HP 53 (4096 * s0 + s1) (256 * s2 + s5 + 163) M) (m1 : HP 47 (s2) (s4) M) (m2 : HP 45 (s2) (s3) M) (f0 : 0 ≤ ((-1) * s4 + 393215)) (hG : gI M) : (HP 66 (s3) (2 : Int) M ∧ True) := by
  refine ⟨r_fl (K := 10) (j := 2 + s5.toNat) m0 m1 m2 ⟨by omega, by omega, by decide⟩ (fun s hs hE e => ?_), trivial⟩
  rw [qck_S (by omega) (by omega), e]
  exact qcN_2 (by omega) (by omega)
theorem rul_264 : Rul r_264 := by
  refine ⟨fun _ ρ M hm hB hF hG => ?_, fun gi gv hg => (by cases hg)⟩
  have H := cr_264 M (ρ 0) (ρ 1) (ρ 2) (ρ 3) (ρ 4) (ρ 5) (hB _ List.mem_cons_self) (hB _ (List.mem_cons_of_mem _ List.mem_cons_self)) (hB _ (List.mem_cons_of_mem _ (List.mem_cons_of_mem _ List.mem_cons_self))) (hB _ (List.mem_cons_of_mem _ (List.mem_cons_of_mem _ (List.mem_cons_of_mem _ List.mem_cons_self)))) (hB _ (List.mem_cons_of_mem _ (List.mem_cons_of_mem _ (List.mem_cons_of_mem _ (List.mem_cons_of_mem _ List.mem_cons_self))))) (hB _ (List.mem_cons_of_mem _ (List.mem_cons_of_mem _ (List.mem_cons_of_mem _ (List.mem_cons_of_mem _ (List.mem_cons_of_mem _ List.mem_cons_self)))))) (cvp 53 (x' := (4096 * (ρ 0) + (ρ 1))) (y' := (256 * (ρ 2) + (ρ 5) + 163)) (by show 0 + (4096 * ρ 0 + (1 * ρ 1 + 0)) = _; omega) (by show 163 + (256 * ρ 2 + (1 * ρ 5 + 0)) = _; omega) (hm _ List.mem_cons_self)) (cvp 47 (x' := ((ρ 2))) (y' := ((ρ 4))) (by show 0 + (1 * ρ 2 + 0) = _; omega) (by show 0 + (1 * ρ 4 + 0) = _; omega) (hm _ (List.mem_cons_of_mem _ List.mem_cons_self))) (cvp 45 (x' := ((ρ 2))) (y' := ((ρ 3))) (by show 0 + (1 * ρ 2 + 0) = _; omega) (by show 0 + (1 * ρ 3 + 0) = _; omega) (hm _ (List.mem_cons_of_mem _ (List.mem_cons_of_mem _ List.mem_cons_self)))) (by have h := hF _ List.mem_cons_self; have h : 0 ≤ 393215 + ((-1) * ρ 4 + 0) := h; omega) hG
  obtain ⟨k0, -⟩ := H
  exact ⟨_, List.mem_cons_self, ρ, fun _ _ => rfl, (okM_c (pvp 66 (by show 0 + (1 * ρ 3 + 0) = _; omega) (by show 2 + 0 = _; omega) k0) okM_n), okB_n, okF_n⟩
-- fl163
theorem cr_265 (M : pM) (s0 s1 s2 s3 s4 s5 : Int) (b0 : 0 ≤ s0 ∧ s0 ≤ 1900) (b1 : 0 ≤ s1 ∧ s1 ≤ 950) (b2 : 0 ≤ s2 ∧ s2 ≤ 1900) (b3 : 0 ≤ s3 ∧ s3 ≤ 1900) (b4 : 256 ≤ s4 ∧ s4 ≤ 600000) (b5 : 0 ≤ s5 ∧ s5 ≤ 3) (m0 : HP 53 (4096 * s0 + s1) (256 * s2 + s5 + 163) M) (m1 : HP 47 (s2) (s4) M) (m2 : HP 45 (s2) (s3) M) (f0 : 0 ≤ (s4 - 403216)) (hG : gI M) : (HP 66 (s3) (2 : Int) M ∧ True) := by
  refine ⟨r_fl (K := 10) (j := 2 + s5.toNat) m0 m1 m2 ⟨by omega, by omega, by decide⟩ (fun s hs hE e => ?_), trivial⟩
  rw [qck_S (by omega) (by omega), e]
  exact qcN_2 (by omega) (by omega)
theorem rul_265 : Rul r_265 := by
  refine ⟨fun _ ρ M hm hB hF hG => ?_, fun gi gv hg => (by cases hg)⟩
  have H := cr_265 M (ρ 0) (ρ 1) (ρ 2) (ρ 3) (ρ 4) (ρ 5) (hB _ List.mem_cons_self) (hB _ (List.mem_cons_of_mem _ List.mem_cons_self)) (hB _ (List.mem_cons_of_mem _ (List.mem_cons_of_mem _ List.mem_cons_self))) (hB _ (List.mem_cons_of_mem _ (List.mem_cons_of_mem _ (List.mem_cons_of_mem _ List.mem_cons_self)))) (hB _ (List.mem_cons_of_mem _ (List.mem_cons_of_mem _ (List.mem_cons_of_mem _ (List.mem_cons_of_mem _ List.mem_cons_self))))) (hB _ (List.mem_cons_of_mem _ (List.mem_cons_of_mem _ (List.mem_cons_of_mem _ (List.mem_cons_of_mem _ (List.mem_cons_of_mem _ List.mem_cons_self)))))) (cvp 53 (x' := (4096 * (ρ 0) + (ρ 1))) (y' := (256 * (ρ 2) + (ρ 5) + 163)) (by show 0 + (4096 * ρ 0 + (1 * ρ 1 + 0)) = _; omega) (by show 163 + (256 * ρ 2 + (1 * ρ 5 + 0)) = _; omega) (hm _ List.mem_cons_self)) (cvp 47 (x' := ((ρ 2))) (y' := ((ρ 4))) (by show 0 + (1 * ρ 2 + 0) = _; omega) (by show 0 + (1 * ρ 4 + 0) = _; omega) (hm _ (List.mem_cons_of_mem _ List.mem_cons_self))) (cvp 45 (x' := ((ρ 2))) (y' := ((ρ 3))) (by show 0 + (1 * ρ 2 + 0) = _; omega) (by show 0 + (1 * ρ 3 + 0) = _; omega) (hm _ (List.mem_cons_of_mem _ (List.mem_cons_of_mem _ List.mem_cons_self)))) (by have h := hF _ List.mem_cons_self; have h : 0 ≤ (-403216) + (1 * ρ 4 + 0) := h; omega) hG
  obtain ⟨k0, -⟩ := H
  exact ⟨_, List.mem_cons_self, ρ, fun _ _ => rfl, (okM_c (pvp 66 (by show 0 + (1 * ρ 3 + 0) = _; omega) (by show 2 + 0 = _; omega) k0) okM_n), okB_n, okF_n⟩
-- fn163
theorem cr_266 (M : pM) (s0 s1 s2 s3 s4 s5 : Int) (b0 : 0 ≤ s0 ∧ s0 ≤ 1900) (b1 : 0 ≤ s1 ∧ s1 ≤ 950) (b2 : 0 ≤ s2 ∧ s2 ≤ 1900) (b3 : 0 ≤ s3 ∧ s3 ≤ 1900) (b4 : 0 ≤ s4 ∧ s4 ≤ 9999) (b5 : 0 ≤ s5 ∧ s5 ≤ 3) (m0 : HP 53 (4096 * s0 + s1) (256 * s2 + s5 + 163) M) (m1 : HP 47 (s2) (s4 + 393216) M) (m2 : HP 45 (s2) (s3) M) (f0 : 0 ≤ (s4 - 31)) (hG : gI M) : (HP 66 (s3) (4 : Int) M ∧ True) := by
  refine ⟨r_fl (K := 10) (j := 2 + s5.toNat) m0 m1 m2 ⟨by omega, by omega, by decide⟩ (fun s hs hE e => ?_), trivial⟩
  rw [qck_S (by omega) (by omega), e]
  exact qcN_4 (by omega) (Or.inr (by omega))
theorem rul_266 : Rul r_266 := by
  refine ⟨fun _ ρ M hm hB hF hG => ?_, fun gi gv hg => (by cases hg)⟩
  have H := cr_266 M (ρ 0) (ρ 1) (ρ 2) (ρ 3) (ρ 4) (ρ 5) (hB _ List.mem_cons_self) (hB _ (List.mem_cons_of_mem _ List.mem_cons_self)) (hB _ (List.mem_cons_of_mem _ (List.mem_cons_of_mem _ List.mem_cons_self))) (hB _ (List.mem_cons_of_mem _ (List.mem_cons_of_mem _ (List.mem_cons_of_mem _ List.mem_cons_self)))) (hB _ (List.mem_cons_of_mem _ (List.mem_cons_of_mem _ (List.mem_cons_of_mem _ (List.mem_cons_of_mem _ List.mem_cons_self))))) (hB _ (List.mem_cons_of_mem _ (List.mem_cons_of_mem _ (List.mem_cons_of_mem _ (List.mem_cons_of_mem _ (List.mem_cons_of_mem _ List.mem_cons_self)))))) (cvp 53 (x' := (4096 * (ρ 0) + (ρ 1))) (y' := (256 * (ρ 2) + (ρ 5) + 163)) (by show 0 + (4096 * ρ 0 + (1 * ρ 1 + 0)) = _; omega) (by show 163 + (256 * ρ 2 + (1 * ρ 5 + 0)) = _; omega) (hm _ List.mem_cons_self)) (cvp 47 (x' := ((ρ 2))) (y' := ((ρ 4) + 393216)) (by show 0 + (1 * ρ 2 + 0) = _; omega) (by show 393216 + (1 * ρ 4 + 0) = _; omega) (hm _ (List.mem_cons_of_mem _ List.mem_cons_self))) (cvp 45 (x' := ((ρ 2))) (y' := ((ρ 3))) (by show 0 + (1 * ρ 2 + 0) = _; omega) (by show 0 + (1 * ρ 3 + 0) = _; omega) (hm _ (List.mem_cons_of_mem _ (List.mem_cons_of_mem _ List.mem_cons_self)))) (by have h := hF _ List.mem_cons_self; have h : 0 ≤ (-31) + (1 * ρ 4 + 0) := h; omega) hG
  obtain ⟨k0, -⟩ := H
  exact ⟨_, List.mem_cons_self, ρ, fun _ _ => rfl, (okM_c (pvp 66 (by show 0 + (1 * ρ 3 + 0) = _; omega) (by show 4 + 0 = _; omega) k0) okM_n), okB_n, okF_n⟩
-- ex163
theorem cr_267 (M : pM) (s0 s1 s2 s3 s4 s5 : Int) (b0 : 0 ≤ s0 ∧ s0 ≤ 1900) (b1 : 0 ≤ s1 ∧ s1 ≤ 950) (b2 : 0 ≤ s2 ∧ s2 ≤ 1900) (b3 : 0 ≤ s3 ∧ s3 ≤ 1900) (b4 : 0 ≤ s4 ∧ s4 ≤ 9999) (b5 : 0 ≤ s5 ∧ s5 ≤ 3) (m0 : HP 53 (4096 * s0 + s1) (256 * s2 + s5 + 163) M) (m1 : HP 47 (s2) (s4 + 393216) M) (m2 : HP 46 (s2) (s3) M) (f0 : 0 ≤ (s4)) (f1 : 0 ≤ ((-1) * s4 + 30)) (hG : gI M) : (HP 53 (4096 * s0 + s1) (256 * s3 + s5 + 164) M ∧ HP 79 (16 * s0 + s5 + 3) (s4) M ∧ True) := by
  refine ⟨?_, ?_, trivial⟩
  · exact r_ex (K := 10) (j := 2 + s5.toNat) m0 m1 m2 ⟨by omega, by omega, by decide⟩ (by omega) (by show _ < 9; omega) (fun s hs hE e => by
        rw [qck_S (by omega) (by omega), e]
        exact qcN_x (by omega) (by omega))
  · exact r_va (P := s0) (l := s1) (K := 10) (j := 2 + s5.toNat) m0 m1 ⟨by omega, by omega, by omega⟩ ⟨by omega, by omega, by decide⟩ (by omega) (by omega)
theorem rul_267 : Rul r_267 := by
  refine ⟨fun _ ρ M hm hB hF hG => ?_, fun gi gv hg => (by cases hg)⟩
  have H := cr_267 M (ρ 0) (ρ 1) (ρ 2) (ρ 3) (ρ 4) (ρ 5) (hB _ List.mem_cons_self) (hB _ (List.mem_cons_of_mem _ List.mem_cons_self)) (hB _ (List.mem_cons_of_mem _ (List.mem_cons_of_mem _ List.mem_cons_self))) (hB _ (List.mem_cons_of_mem _ (List.mem_cons_of_mem _ (List.mem_cons_of_mem _ List.mem_cons_self)))) (hB _ (List.mem_cons_of_mem _ (List.mem_cons_of_mem _ (List.mem_cons_of_mem _ (List.mem_cons_of_mem _ List.mem_cons_self))))) (hB _ (List.mem_cons_of_mem _ (List.mem_cons_of_mem _ (List.mem_cons_of_mem _ (List.mem_cons_of_mem _ (List.mem_cons_of_mem _ List.mem_cons_self)))))) (cvp 53 (x' := (4096 * (ρ 0) + (ρ 1))) (y' := (256 * (ρ 2) + (ρ 5) + 163)) (by show 0 + (4096 * ρ 0 + (1 * ρ 1 + 0)) = _; omega) (by show 163 + (256 * ρ 2 + (1 * ρ 5 + 0)) = _; omega) (hm _ List.mem_cons_self)) (cvp 47 (x' := ((ρ 2))) (y' := ((ρ 4) + 393216)) (by show 0 + (1 * ρ 2 + 0) = _; omega) (by show 393216 + (1 * ρ 4 + 0) = _; omega) (hm _ (List.mem_cons_of_mem _ List.mem_cons_self))) (cvp 46 (x' := ((ρ 2))) (y' := ((ρ 3))) (by show 0 + (1 * ρ 2 + 0) = _; omega) (by show 0 + (1 * ρ 3 + 0) = _; omega) (hm _ (List.mem_cons_of_mem _ (List.mem_cons_of_mem _ List.mem_cons_self)))) (by have h := hF _ List.mem_cons_self; have h : 0 ≤ 0 + (1 * ρ 4 + 0) := h; omega) (by have h := hF _ (List.mem_cons_of_mem _ List.mem_cons_self); have h : 0 ≤ 30 + ((-1) * ρ 4 + 0) := h; omega) hG
  obtain ⟨k0, k1, -⟩ := H
  exact ⟨_, List.mem_cons_self, ρ, fun _ _ => rfl, (okM_c (pvp 53 (by show 0 + (4096 * ρ 0 + (1 * ρ 1 + 0)) = _; omega) (by show 164 + (256 * ρ 3 + (1 * ρ 5 + 0)) = _; omega) k0) (okM_c (pvp 79 (by show 3 + (16 * ρ 0 + (1 * ρ 5 + 0)) = _; omega) (by show 0 + (1 * ρ 4 + 0) = _; omega) k1) okM_n)), okB_n, okF_n⟩
-- ex167
theorem cr_268 (M : pM) (s0 s1 s2 s3 : Int) (b0 : 0 ≤ s0 ∧ s0 ≤ 1900) (b1 : 0 ≤ s1 ∧ s1 ≤ 950) (b2 : 0 ≤ s2 ∧ s2 ≤ 1900) (b3 : 0 ≤ s3 ∧ s3 ≤ 1900) (m0 : HP 53 (4096 * s0 + s1) (256 * s2 + 167) M) (m1 : HP 47 (s2) (262156 : Int) M) (m2 : HP 46 (s2) (s3) M) (hG : gI M) : (HP 53 (4096 * s0 + s1) (256 * s3 + 168) M ∧ True) := by
  refine ⟨?_, trivial⟩
  · exact r_ex (K := 10) (j := 6) m0 m1 m2 ⟨by omega, by omega, by decide⟩ (by omega) (by decide) (fun s hs hE e => by
        show qcK 262156 (tK (tm M) (qps (tm M) s.1 7)) = none
        rw [e]
        exact qcK_x (by omega) (by omega))
theorem rul_268 : Rul r_268 := by
  refine ⟨fun _ ρ M hm hB hF hG => ?_, fun gi gv hg => (by cases hg)⟩
  have H := cr_268 M (ρ 0) (ρ 1) (ρ 2) (ρ 3) (hB _ List.mem_cons_self) (hB _ (List.mem_cons_of_mem _ List.mem_cons_self)) (hB _ (List.mem_cons_of_mem _ (List.mem_cons_of_mem _ List.mem_cons_self))) (hB _ (List.mem_cons_of_mem _ (List.mem_cons_of_mem _ (List.mem_cons_of_mem _ List.mem_cons_self)))) (cvp 53 (x' := (4096 * (ρ 0) + (ρ 1))) (y' := (256 * (ρ 2) + 167)) (by show 0 + (4096 * ρ 0 + (1 * ρ 1 + 0)) = _; omega) (by show 167 + (256 * ρ 2 + 0) = _; omega) (hm _ List.mem_cons_self)) (cvp 47 (x' := ((ρ 2))) (y' := (262156 : Int)) (by show 0 + (1 * ρ 2 + 0) = _; omega) (by show 262156 + 0 = _; omega) (hm _ (List.mem_cons_of_mem _ List.mem_cons_self))) (cvp 46 (x' := ((ρ 2))) (y' := ((ρ 3))) (by show 0 + (1 * ρ 2 + 0) = _; omega) (by show 0 + (1 * ρ 3 + 0) = _; omega) (hm _ (List.mem_cons_of_mem _ (List.mem_cons_of_mem _ List.mem_cons_self)))) hG
  obtain ⟨k0, -⟩ := H
  exact ⟨_, List.mem_cons_self, ρ, fun _ _ => rfl, (okM_c (pvp 53 (by show 0 + (4096 * ρ 0 + (1 * ρ 1 + 0)) = _; omega) (by show 168 + (256 * ρ 3 + 0) = _; omega) k0) okM_n), okB_n, okF_n⟩
-- fk167
theorem cr_269 (M : pM) (s0 s1 s2 s3 s4 : Int) (b0 : 0 ≤ s0 ∧ s0 ≤ 1900) (b1 : 0 ≤ s1 ∧ s1 ≤ 950) (b2 : 0 ≤ s2 ∧ s2 ≤ 1900) (b3 : 0 ≤ s3 ∧ s3 ≤ 1900) (b4 : 256 ≤ s4 ∧ s4 ≤ 600000) (m0 : HP 53 (4096 * s0 + s1) (256 * s2 + 167) M) (m1 : HP 47 (s2) (s4) M) (m2 : HP 45 (s2) (s3) M) (f0 : 0 ≤ ((-1) * s4 + 262155)) (hG : gI M) : (HP 66 (s3) (2 : Int) M ∧ True) := by
  refine ⟨r_fl (K := 10) (j := 6) m0 m1 m2 ⟨by omega, by omega, by decide⟩ (fun s hs hE e => ?_), trivial⟩
  show qcK 262156 (tK (tm M) (qps (tm M) s.1 7)) = some 2
  rw [e]
  exact qcK_2 (by omega) (by omega)
theorem rul_269 : Rul r_269 := by
  refine ⟨fun _ ρ M hm hB hF hG => ?_, fun gi gv hg => (by cases hg)⟩
  have H := cr_269 M (ρ 0) (ρ 1) (ρ 2) (ρ 3) (ρ 4) (hB _ List.mem_cons_self) (hB _ (List.mem_cons_of_mem _ List.mem_cons_self)) (hB _ (List.mem_cons_of_mem _ (List.mem_cons_of_mem _ List.mem_cons_self))) (hB _ (List.mem_cons_of_mem _ (List.mem_cons_of_mem _ (List.mem_cons_of_mem _ List.mem_cons_self)))) (hB _ (List.mem_cons_of_mem _ (List.mem_cons_of_mem _ (List.mem_cons_of_mem _ (List.mem_cons_of_mem _ List.mem_cons_self))))) (cvp 53 (x' := (4096 * (ρ 0) + (ρ 1))) (y' := (256 * (ρ 2) + 167)) (by show 0 + (4096 * ρ 0 + (1 * ρ 1 + 0)) = _; omega) (by show 167 + (256 * ρ 2 + 0) = _; omega) (hm _ List.mem_cons_self)) (cvp 47 (x' := ((ρ 2))) (y' := ((ρ 4))) (by show 0 + (1 * ρ 2 + 0) = _; omega) (by show 0 + (1 * ρ 4 + 0) = _; omega) (hm _ (List.mem_cons_of_mem _ List.mem_cons_self))) (cvp 45 (x' := ((ρ 2))) (y' := ((ρ 3))) (by show 0 + (1 * ρ 2 + 0) = _; omega) (by show 0 + (1 * ρ 3 + 0) = _; omega) (hm _ (List.mem_cons_of_mem _ (List.mem_cons_of_mem _ List.mem_cons_self)))) (by have h := hF _ List.mem_cons_self; have h : 0 ≤ 262155 + ((-1) * ρ 4 + 0) := h; omega) hG
  obtain ⟨k0, -⟩ := H
  exact ⟨_, List.mem_cons_self, ρ, fun _ _ => rfl, (okM_c (pvp 66 (by show 0 + (1 * ρ 3 + 0) = _; omega) (by show 2 + 0 = _; omega) k0) okM_n), okB_n, okF_n⟩
-- fl167
theorem cr_270 (M : pM) (s0 s1 s2 s3 s4 : Int) (b0 : 0 ≤ s0 ∧ s0 ≤ 1900) (b1 : 0 ≤ s1 ∧ s1 ≤ 950) (b2 : 0 ≤ s2 ∧ s2 ≤ 1900) (b3 : 0 ≤ s3 ∧ s3 ≤ 1900) (b4 : 256 ≤ s4 ∧ s4 ≤ 600000) (m0 : HP 53 (4096 * s0 + s1) (256 * s2 + 167) M) (m1 : HP 47 (s2) (s4) M) (m2 : HP 45 (s2) (s3) M) (f0 : 0 ≤ (s4 - 262157)) (hG : gI M) : (HP 66 (s3) (2 : Int) M ∧ True) := by
  refine ⟨r_fl (K := 10) (j := 6) m0 m1 m2 ⟨by omega, by omega, by decide⟩ (fun s hs hE e => ?_), trivial⟩
  show qcK 262156 (tK (tm M) (qps (tm M) s.1 7)) = some 2
  rw [e]
  exact qcK_2 (by omega) (by omega)
theorem rul_270 : Rul r_270 := by
  refine ⟨fun _ ρ M hm hB hF hG => ?_, fun gi gv hg => (by cases hg)⟩
  have H := cr_270 M (ρ 0) (ρ 1) (ρ 2) (ρ 3) (ρ 4) (hB _ List.mem_cons_self) (hB _ (List.mem_cons_of_mem _ List.mem_cons_self)) (hB _ (List.mem_cons_of_mem _ (List.mem_cons_of_mem _ List.mem_cons_self))) (hB _ (List.mem_cons_of_mem _ (List.mem_cons_of_mem _ (List.mem_cons_of_mem _ List.mem_cons_self)))) (hB _ (List.mem_cons_of_mem _ (List.mem_cons_of_mem _ (List.mem_cons_of_mem _ (List.mem_cons_of_mem _ List.mem_cons_self))))) (cvp 53 (x' := (4096 * (ρ 0) + (ρ 1))) (y' := (256 * (ρ 2) + 167)) (by show 0 + (4096 * ρ 0 + (1 * ρ 1 + 0)) = _; omega) (by show 167 + (256 * ρ 2 + 0) = _; omega) (hm _ List.mem_cons_self)) (cvp 47 (x' := ((ρ 2))) (y' := ((ρ 4))) (by show 0 + (1 * ρ 2 + 0) = _; omega) (by show 0 + (1 * ρ 4 + 0) = _; omega) (hm _ (List.mem_cons_of_mem _ List.mem_cons_self))) (cvp 45 (x' := ((ρ 2))) (y' := ((ρ 3))) (by show 0 + (1 * ρ 2 + 0) = _; omega) (by show 0 + (1 * ρ 3 + 0) = _; omega) (hm _ (List.mem_cons_of_mem _ (List.mem_cons_of_mem _ List.mem_cons_self)))) (by have h := hF _ List.mem_cons_self; have h : 0 ≤ (-262157) + (1 * ρ 4 + 0) := h; omega) hG
  obtain ⟨k0, -⟩ := H
  exact ⟨_, List.mem_cons_self, ρ, fun _ _ => rfl, (okM_c (pvp 66 (by show 0 + (1 * ρ 3 + 0) = _; omega) (by show 2 + 0 = _; omega) k0) okM_n), okB_n, okF_n⟩
-- fk168
theorem cr_271 (M : pM) (s0 s1 s2 s3 s4 : Int) (b0 : 0 ≤ s0 ∧ s0 ≤ 1900) (b1 : 0 ≤ s1 ∧ s1 ≤ 950) (b2 : 0 ≤ s2 ∧ s2 ≤ 1900) (b3 : 0 ≤ s3 ∧ s3 ≤ 1900) (b4 : 256 ≤ s4 ∧ s4 ≤ 600000) (m0 : HP 53 (4096 * s0 + s1) (256 * s2 + 168) M) (m1 : HP 47 (s2) (s4) M) (m2 : HP 45 (s2) (s3) M) (f0 : 0 ≤ ((-1) * s4 + 393215)) (hG : gI M) : (HP 66 (s3) (2 : Int) M ∧ True) := by
  refine ⟨r_fl (K := 10) (j := 7) m0 m1 m2 ⟨by omega, by omega, by decide⟩ (fun s hs hE e => ?_), trivial⟩
  show qcN 50 200 none (tK (tm M) (qps (tm M) s.1 8)) = some 2
  rw [e]
  exact qcN_2 (by omega) (by omega)
theorem rul_271 : Rul r_271 := by
  refine ⟨fun _ ρ M hm hB hF hG => ?_, fun gi gv hg => (by cases hg)⟩
  have H := cr_271 M (ρ 0) (ρ 1) (ρ 2) (ρ 3) (ρ 4) (hB _ List.mem_cons_self) (hB _ (List.mem_cons_of_mem _ List.mem_cons_self)) (hB _ (List.mem_cons_of_mem _ (List.mem_cons_of_mem _ List.mem_cons_self))) (hB _ (List.mem_cons_of_mem _ (List.mem_cons_of_mem _ (List.mem_cons_of_mem _ List.mem_cons_self)))) (hB _ (List.mem_cons_of_mem _ (List.mem_cons_of_mem _ (List.mem_cons_of_mem _ (List.mem_cons_of_mem _ List.mem_cons_self))))) (cvp 53 (x' := (4096 * (ρ 0) + (ρ 1))) (y' := (256 * (ρ 2) + 168)) (by show 0 + (4096 * ρ 0 + (1 * ρ 1 + 0)) = _; omega) (by show 168 + (256 * ρ 2 + 0) = _; omega) (hm _ List.mem_cons_self)) (cvp 47 (x' := ((ρ 2))) (y' := ((ρ 4))) (by show 0 + (1 * ρ 2 + 0) = _; omega) (by show 0 + (1 * ρ 4 + 0) = _; omega) (hm _ (List.mem_cons_of_mem _ List.mem_cons_self))) (cvp 45 (x' := ((ρ 2))) (y' := ((ρ 3))) (by show 0 + (1 * ρ 2 + 0) = _; omega) (by show 0 + (1 * ρ 3 + 0) = _; omega) (hm _ (List.mem_cons_of_mem _ (List.mem_cons_of_mem _ List.mem_cons_self)))) (by have h := hF _ List.mem_cons_self; have h : 0 ≤ 393215 + ((-1) * ρ 4 + 0) := h; omega) hG
  obtain ⟨k0, -⟩ := H
  exact ⟨_, List.mem_cons_self, ρ, fun _ _ => rfl, (okM_c (pvp 66 (by show 0 + (1 * ρ 3 + 0) = _; omega) (by show 2 + 0 = _; omega) k0) okM_n), okB_n, okF_n⟩
-- fl168
theorem cr_272 (M : pM) (s0 s1 s2 s3 s4 : Int) (b0 : 0 ≤ s0 ∧ s0 ≤ 1900) (b1 : 0 ≤ s1 ∧ s1 ≤ 950) (b2 : 0 ≤ s2 ∧ s2 ≤ 1900) (b3 : 0 ≤ s3 ∧ s3 ≤ 1900) (b4 : 256 ≤ s4 ∧ s4 ≤ 600000) (m0 : HP 53 (4096 * s0 + s1) (256 * s2 + 168) M) (m1 : HP 47 (s2) (s4) M) (m2 : HP 45 (s2) (s3) M) (f0 : 0 ≤ (s4 - 403216)) (hG : gI M) : (HP 66 (s3) (2 : Int) M ∧ True) := by
  refine ⟨r_fl (K := 10) (j := 7) m0 m1 m2 ⟨by omega, by omega, by decide⟩ (fun s hs hE e => ?_), trivial⟩
  show qcN 50 200 none (tK (tm M) (qps (tm M) s.1 8)) = some 2
  rw [e]
  exact qcN_2 (by omega) (by omega)
theorem rul_272 : Rul r_272 := by
  refine ⟨fun _ ρ M hm hB hF hG => ?_, fun gi gv hg => (by cases hg)⟩
  have H := cr_272 M (ρ 0) (ρ 1) (ρ 2) (ρ 3) (ρ 4) (hB _ List.mem_cons_self) (hB _ (List.mem_cons_of_mem _ List.mem_cons_self)) (hB _ (List.mem_cons_of_mem _ (List.mem_cons_of_mem _ List.mem_cons_self))) (hB _ (List.mem_cons_of_mem _ (List.mem_cons_of_mem _ (List.mem_cons_of_mem _ List.mem_cons_self)))) (hB _ (List.mem_cons_of_mem _ (List.mem_cons_of_mem _ (List.mem_cons_of_mem _ (List.mem_cons_of_mem _ List.mem_cons_self))))) (cvp 53 (x' := (4096 * (ρ 0) + (ρ 1))) (y' := (256 * (ρ 2) + 168)) (by show 0 + (4096 * ρ 0 + (1 * ρ 1 + 0)) = _; omega) (by show 168 + (256 * ρ 2 + 0) = _; omega) (hm _ List.mem_cons_self)) (cvp 47 (x' := ((ρ 2))) (y' := ((ρ 4))) (by show 0 + (1 * ρ 2 + 0) = _; omega) (by show 0 + (1 * ρ 4 + 0) = _; omega) (hm _ (List.mem_cons_of_mem _ List.mem_cons_self))) (cvp 45 (x' := ((ρ 2))) (y' := ((ρ 3))) (by show 0 + (1 * ρ 2 + 0) = _; omega) (by show 0 + (1 * ρ 3 + 0) = _; omega) (hm _ (List.mem_cons_of_mem _ (List.mem_cons_of_mem _ List.mem_cons_self)))) (by have h := hF _ List.mem_cons_self; have h : 0 ≤ (-403216) + (1 * ρ 4 + 0) := h; omega) hG
  obtain ⟨k0, -⟩ := H
  exact ⟨_, List.mem_cons_self, ρ, fun _ _ => rfl, (okM_c (pvp 66 (by show 0 + (1 * ρ 3 + 0) = _; omega) (by show 2 + 0 = _; omega) k0) okM_n), okB_n, okF_n⟩
-- fm168
theorem cr_273 (M : pM) (s0 s1 s2 s3 s4 : Int) (b0 : 0 ≤ s0 ∧ s0 ≤ 1900) (b1 : 0 ≤ s1 ∧ s1 ≤ 950) (b2 : 0 ≤ s2 ∧ s2 ≤ 1900) (b3 : 0 ≤ s3 ∧ s3 ≤ 1900) (b4 : 0 ≤ s4 ∧ s4 ≤ 9999) (m0 : HP 53 (4096 * s0 + s1) (256 * s2 + 168) M) (m1 : HP 47 (s2) (s4 + 393216) M) (m2 : HP 45 (s2) (s3) M) (f0 : 0 ≤ ((-1) * s4 + 49)) (hG : gI M) : (HP 66 (s3) (4 : Int) M ∧ True) := by
  refine ⟨r_fl (K := 10) (j := 7) m0 m1 m2 ⟨by omega, by omega, by decide⟩ (fun s hs hE e => ?_), trivial⟩
  show qcN 50 200 none (tK (tm M) (qps (tm M) s.1 8)) = some 4
  rw [e]
  exact qcN_4 (by omega) (Or.inl (by omega))
theorem rul_273 : Rul r_273 := by
  refine ⟨fun _ ρ M hm hB hF hG => ?_, fun gi gv hg => (by cases hg)⟩
  have H := cr_273 M (ρ 0) (ρ 1) (ρ 2) (ρ 3) (ρ 4) (hB _ List.mem_cons_self) (hB _ (List.mem_cons_of_mem _ List.mem_cons_self)) (hB _ (List.mem_cons_of_mem _ (List.mem_cons_of_mem _ List.mem_cons_self))) (hB _ (List.mem_cons_of_mem _ (List.mem_cons_of_mem _ (List.mem_cons_of_mem _ List.mem_cons_self)))) (hB _ (List.mem_cons_of_mem _ (List.mem_cons_of_mem _ (List.mem_cons_of_mem _ (List.mem_cons_of_mem _ List.mem_cons_self))))) (cvp 53 (x' := (4096 * (ρ 0) + (ρ 1))) (y' := (256 * (ρ 2) + 168)) (by show 0 + (4096 * ρ 0 + (1 * ρ 1 + 0)) = _; omega) (by show 168 + (256 * ρ 2 + 0) = _; omega) (hm _ List.mem_cons_self)) (cvp 47 (x' := ((ρ 2))) (y' := ((ρ 4) + 393216)) (by show 0 + (1 * ρ 2 + 0) = _; omega) (by show 393216 + (1 * ρ 4 + 0) = _; omega) (hm _ (List.mem_cons_of_mem _ List.mem_cons_self))) (cvp 45 (x' := ((ρ 2))) (y' := ((ρ 3))) (by show 0 + (1 * ρ 2 + 0) = _; omega) (by show 0 + (1 * ρ 3 + 0) = _; omega) (hm _ (List.mem_cons_of_mem _ (List.mem_cons_of_mem _ List.mem_cons_self)))) (by have h := hF _ List.mem_cons_self; have h : 0 ≤ 49 + ((-1) * ρ 4 + 0) := h; omega) hG
  obtain ⟨k0, -⟩ := H
  exact ⟨_, List.mem_cons_self, ρ, fun _ _ => rfl, (okM_c (pvp 66 (by show 0 + (1 * ρ 3 + 0) = _; omega) (by show 4 + 0 = _; omega) k0) okM_n), okB_n, okF_n⟩
-- fn168
theorem cr_274 (M : pM) (s0 s1 s2 s3 s4 : Int) (b0 : 0 ≤ s0 ∧ s0 ≤ 1900) (b1 : 0 ≤ s1 ∧ s1 ≤ 950) (b2 : 0 ≤ s2 ∧ s2 ≤ 1900) (b3 : 0 ≤ s3 ∧ s3 ≤ 1900) (b4 : 0 ≤ s4 ∧ s4 ≤ 9999) (m0 : HP 53 (4096 * s0 + s1) (256 * s2 + 168) M) (m1 : HP 47 (s2) (s4 + 393216) M) (m2 : HP 45 (s2) (s3) M) (f0 : 0 ≤ (s4 - 201)) (hG : gI M) : (HP 66 (s3) (4 : Int) M ∧ True) := by
  refine ⟨r_fl (K := 10) (j := 7) m0 m1 m2 ⟨by omega, by omega, by decide⟩ (fun s hs hE e => ?_), trivial⟩
  show qcN 50 200 none (tK (tm M) (qps (tm M) s.1 8)) = some 4
  rw [e]
  exact qcN_4 (by omega) (Or.inr (by omega))
theorem rul_274 : Rul r_274 := by
  refine ⟨fun _ ρ M hm hB hF hG => ?_, fun gi gv hg => (by cases hg)⟩
  have H := cr_274 M (ρ 0) (ρ 1) (ρ 2) (ρ 3) (ρ 4) (hB _ List.mem_cons_self) (hB _ (List.mem_cons_of_mem _ List.mem_cons_self)) (hB _ (List.mem_cons_of_mem _ (List.mem_cons_of_mem _ List.mem_cons_self))) (hB _ (List.mem_cons_of_mem _ (List.mem_cons_of_mem _ (List.mem_cons_of_mem _ List.mem_cons_self)))) (hB _ (List.mem_cons_of_mem _ (List.mem_cons_of_mem _ (List.mem_cons_of_mem _ (List.mem_cons_of_mem _ List.mem_cons_self))))) (cvp 53 (x' := (4096 * (ρ 0) + (ρ 1))) (y' := (256 * (ρ 2) + 168)) (by show 0 + (4096 * ρ 0 + (1 * ρ 1 + 0)) = _; omega) (by show 168 + (256 * ρ 2 + 0) = _; omega) (hm _ List.mem_cons_self)) (cvp 47 (x' := ((ρ 2))) (y' := ((ρ 4) + 393216)) (by show 0 + (1 * ρ 2 + 0) = _; omega) (by show 393216 + (1 * ρ 4 + 0) = _; omega) (hm _ (List.mem_cons_of_mem _ List.mem_cons_self))) (cvp 45 (x' := ((ρ 2))) (y' := ((ρ 3))) (by show 0 + (1 * ρ 2 + 0) = _; omega) (by show 0 + (1 * ρ 3 + 0) = _; omega) (hm _ (List.mem_cons_of_mem _ (List.mem_cons_of_mem _ List.mem_cons_self)))) (by have h := hF _ List.mem_cons_self; have h : 0 ≤ (-201) + (1 * ρ 4 + 0) := h; omega) hG
  obtain ⟨k0, -⟩ := H
  exact ⟨_, List.mem_cons_self, ρ, fun _ _ => rfl, (okM_c (pvp 66 (by show 0 + (1 * ρ 3 + 0) = _; omega) (by show 4 + 0 = _; omega) k0) okM_n), okB_n, okF_n⟩
-- ex168
theorem cr_275 (M : pM) (s0 s1 s2 s3 s4 : Int) (b0 : 0 ≤ s0 ∧ s0 ≤ 1900) (b1 : 0 ≤ s1 ∧ s1 ≤ 950) (b2 : 0 ≤ s2 ∧ s2 ≤ 1900) (b3 : 0 ≤ s3 ∧ s3 ≤ 1900) (b4 : 0 ≤ s4 ∧ s4 ≤ 9999) (m0 : HP 53 (4096 * s0 + s1) (256 * s2 + 168) M) (m1 : HP 47 (s2) (s4 + 393216) M) (m2 : HP 46 (s2) (s3) M) (f0 : 0 ≤ (s4 - 50)) (f1 : 0 ≤ ((-1) * s4 + 200)) (hG : gI M) : (HP 53 (4096 * s0 + s1) (256 * s3 + 169) M ∧ HP 79 (16 * s0 + 8) (s4) M ∧ True) := by
  refine ⟨?_, ?_, trivial⟩
  · exact r_ex (K := 10) (j := 7) m0 m1 m2 ⟨by omega, by omega, by decide⟩ (by omega) (by decide) (fun s hs hE e => by
        show qcN 50 200 none (tK (tm M) (qps (tm M) s.1 8)) = none
        rw [e]
        exact qcN_x (by omega) (by omega))
  · exact r_va (P := s0) (l := s1) (K := 10) (j := 7) m0 m1 ⟨by omega, by omega, by omega⟩ ⟨by omega, by omega, by decide⟩ (by omega) (by omega)
theorem rul_275 : Rul r_275 := by
  refine ⟨fun _ ρ M hm hB hF hG => ?_, fun gi gv hg => (by cases hg)⟩
  have H := cr_275 M (ρ 0) (ρ 1) (ρ 2) (ρ 3) (ρ 4) (hB _ List.mem_cons_self) (hB _ (List.mem_cons_of_mem _ List.mem_cons_self)) (hB _ (List.mem_cons_of_mem _ (List.mem_cons_of_mem _ List.mem_cons_self))) (hB _ (List.mem_cons_of_mem _ (List.mem_cons_of_mem _ (List.mem_cons_of_mem _ List.mem_cons_self)))) (hB _ (List.mem_cons_of_mem _ (List.mem_cons_of_mem _ (List.mem_cons_of_mem _ (List.mem_cons_of_mem _ List.mem_cons_self))))) (cvp 53 (x' := (4096 * (ρ 0) + (ρ 1))) (y' := (256 * (ρ 2) + 168)) (by show 0 + (4096 * ρ 0 + (1 * ρ 1 + 0)) = _; omega) (by show 168 + (256 * ρ 2 + 0) = _; omega) (hm _ List.mem_cons_self)) (cvp 47 (x' := ((ρ 2))) (y' := ((ρ 4) + 393216)) (by show 0 + (1 * ρ 2 + 0) = _; omega) (by show 393216 + (1 * ρ 4 + 0) = _; omega) (hm _ (List.mem_cons_of_mem _ List.mem_cons_self))) (cvp 46 (x' := ((ρ 2))) (y' := ((ρ 3))) (by show 0 + (1 * ρ 2 + 0) = _; omega) (by show 0 + (1 * ρ 3 + 0) = _; omega) (hm _ (List.mem_cons_of_mem _ (List.mem_cons_of_mem _ List.mem_cons_self)))) (by have h := hF _ List.mem_cons_self; have h : 0 ≤ (-50) + (1 * ρ 4 + 0) := h; omega) (by have h := hF _ (List.mem_cons_of_mem _ List.mem_cons_self); have h : 0 ≤ 200 + ((-1) * ρ 4 + 0) := h; omega) hG
  obtain ⟨k0, k1, -⟩ := H
  exact ⟨_, List.mem_cons_self, ρ, fun _ _ => rfl, (okM_c (pvp 53 (by show 0 + (4096 * ρ 0 + (1 * ρ 1 + 0)) = _; omega) (by show 169 + (256 * ρ 3 + 0) = _; omega) k0) (okM_c (pvp 79 (by show 8 + (16 * ρ 0 + 0) = _; omega) (by show 0 + (1 * ρ 4 + 0) = _; omega) k1) okM_n)), okB_n, okF_n⟩
-- ln10
theorem cr_276 (M : pM) (s0 s1 s2 : Int) (b0 : 0 ≤ s0 ∧ s0 ≤ 1900) (b1 : 0 ≤ s1 ∧ s1 ≤ 950) (b2 : 0 ≤ s2 ∧ s2 ≤ 1900) (m0 : HP 53 (4096 * s0 + s1) (256 * s2 + 169) M) (hG : gI M) : (HP 89 (4096 * s0 + s1) (s2) M ∧ True) := by
  obtain ⟨s, h1, h2⟩ := ex_o (K := 10) (j := 8) (a := s2) (Eq.mp hp_53 m0) ⟨by omega, by omega, by decide, by decide⟩
  exact ⟨Eq.mpr hp_89 ⟨s, 10, h1, ⟨h2.2.2.1, h2.2.2.2.1⟩, h2.2.2.2.2⟩, trivial⟩
theorem rul_276 : Rul r_276 := by
  refine ⟨fun _ ρ M hm hB hF hG => ?_, fun gi gv hg => (by cases hg)⟩
  have H := cr_276 M (ρ 0) (ρ 1) (ρ 2) (hB _ List.mem_cons_self) (hB _ (List.mem_cons_of_mem _ List.mem_cons_self)) (hB _ (List.mem_cons_of_mem _ (List.mem_cons_of_mem _ List.mem_cons_self))) (cvp 53 (x' := (4096 * (ρ 0) + (ρ 1))) (y' := (256 * (ρ 2) + 169)) (by show 0 + (4096 * ρ 0 + (1 * ρ 1 + 0)) = _; omega) (by show 169 + (256 * ρ 2 + 0) = _; omega) (hm _ List.mem_cons_self)) hG
  obtain ⟨k0, -⟩ := H
  exact ⟨_, List.mem_cons_self, ρ, fun _ _ => rfl, (okM_c (pvp 89 (by show 0 + (4096 * ρ 0 + (1 * ρ 1 + 0)) = _; omega) (by show 0 + (1 * ρ 2 + 0) = _; omega) k0) okM_n), okB_n, okF_n⟩
-- exx
theorem cr_277 (M : pM) (s0 s1 s2 s3 s4 : Int) (b0 : 0 ≤ s0 ∧ s0 ≤ 1900) (b1 : 0 ≤ s1 ∧ s1 ≤ 950) (b2 : 0 ≤ s2 ∧ s2 ≤ 1900) (b3 : 0 ≤ s3 ∧ s3 ≤ 175) (b4 : 0 ≤ s4 ∧ s4 ≤ 175) (m0 : HP 53 (4096 * s0 + s1) (256 * s2 + s3) M) (f0 : 0 ≤ ((-1) * s3 + s4)) (f1 : 0 ≤ (s3 + (-1) * s4)) (hG : gI M) : (HP 53 (4096 * s0 + s1) (256 * s2 + s4) M ∧ True) := by
  have e : s3 = s4 := by omega
  subst e
  exact ⟨m0, trivial⟩
theorem rul_277 : Rul r_277 := by
  refine ⟨fun _ ρ M hm hB hF hG => ?_, fun gi gv hg => (by cases hg)⟩
  have H := cr_277 M (ρ 0) (ρ 1) (ρ 2) (ρ 3) (ρ 4) (hB _ List.mem_cons_self) (hB _ (List.mem_cons_of_mem _ List.mem_cons_self)) (hB _ (List.mem_cons_of_mem _ (List.mem_cons_of_mem _ List.mem_cons_self))) (hB _ (List.mem_cons_of_mem _ (List.mem_cons_of_mem _ (List.mem_cons_of_mem _ List.mem_cons_self)))) (hB _ (List.mem_cons_of_mem _ (List.mem_cons_of_mem _ (List.mem_cons_of_mem _ (List.mem_cons_of_mem _ List.mem_cons_self))))) (cvp 53 (x' := (4096 * (ρ 0) + (ρ 1))) (y' := (256 * (ρ 2) + (ρ 3))) (by show 0 + (4096 * ρ 0 + (1 * ρ 1 + 0)) = _; omega) (by show 0 + (256 * ρ 2 + (1 * ρ 3 + 0)) = _; omega) (hm _ List.mem_cons_self)) (by have h := hF _ List.mem_cons_self; have h : 0 ≤ 0 + ((-1) * ρ 3 + (1 * ρ 4 + 0)) := h; omega) (by have h := hF _ (List.mem_cons_of_mem _ List.mem_cons_self); have h : 0 ≤ 0 + (1 * ρ 3 + ((-1) * ρ 4 + 0)) := h; omega) hG
  obtain ⟨k0, -⟩ := H
  exact ⟨_, List.mem_cons_self, ρ, fun _ _ => rfl, (okM_c (pvp 53 (by show 0 + (4096 * ρ 0 + (1 * ρ 1 + 0)) = _; omega) (by show 0 + (256 * ρ 2 + (1 * ρ 4 + 0)) = _; omega) k0) okM_n), okB_n, okF_n⟩
-- gr0
theorem cr_278 (M : pM) (s0 : Int) (b0 : 0 ≤ s0 ∧ s0 ≤ 1900) (hG : gI M) : (HP 80 (16 * s0) (0 : Int) M ∧ True) := by
  exact ⟨Eq.mpr hp_80 ⟨s0.toNat, 0, by decide, by omega, fun i hi => by omega⟩, trivial⟩
theorem rul_278 : Rul r_278 := by
  refine ⟨fun _ ρ M hm hB hF hG => ?_, fun gi gv hg => (by cases hg)⟩
  have H := cr_278 M (ρ 0) (hB _ List.mem_cons_self) hG
  obtain ⟨k0, -⟩ := H
  exact ⟨_, List.mem_cons_self, ρ, fun _ _ => rfl, (okM_c (pvp 80 (by show 0 + (16 * ρ 0 + 0) = _; omega) (by show 0 + 0 = _; omega) k0) okM_n), okB_n, okF_n⟩
-- grn
theorem cr_279 (M : pM) (s0 s1 s2 : Int) (b0 : 0 ≤ s0 ∧ s0 ≤ 1900) (b1 : 0 ≤ s1 ∧ s1 ≤ 7) (b2 : 97 ≤ s2 ∧ s2 ≤ 104) (m0 : HP 80 (16 * s0 + s1) (0 : Int) M) (m1 : (0 ≤ (s0 + s1) ∧ M 1 (s0 + s1).toNat = (s2))) (hG : gI M) : (HP 80 (16 * s0 + s1 + 1) (0 : Int) M ∧ True) := by
  have hh := gr_o (s := s0.toNat) (k := s1.toNat) (Eq.mp hp_80 m0) ⟨by omega, by omega⟩
  refine ⟨Eq.mpr hp_80 ⟨s0.toNat, s1.toNat + 1, by omega, by omega, fun i hi => ?_⟩, trivial⟩
  by_cases e : i = s1.toNat
  · have hr := rd1 m1 (by omega)
    rw [e, show s0.toNat + s1.toNat = (s0 + s1).toNat by omega, show (s0 + s1) = s0 + s1 from rfl]
    first | (rw [hr]; omega) | (rw [show (s0 + s1).toNat = (s1 + s0).toNat by omega, hr]; omega)
  · exact hh i (by omega)
theorem rul_279 : Rul r_279 := by
  refine ⟨fun _ ρ M hm hB hF hG => ?_, fun gi gv hg => (by cases hg)⟩
  have H := cr_279 M (ρ 0) (ρ 1) (ρ 2) (hB _ List.mem_cons_self) (hB _ (List.mem_cons_of_mem _ List.mem_cons_self)) (hB _ (List.mem_cons_of_mem _ (List.mem_cons_of_mem _ List.mem_cons_self))) (cvp 80 (x' := (16 * (ρ 0) + (ρ 1))) (y' := (0 : Int)) (by show 0 + (16 * ρ 0 + (1 * ρ 1 + 0)) = _; omega) (by show 0 + 0 = _; omega) (hm _ List.mem_cons_self)) (cvm (c := 1) (by decide) (x' := ((ρ 0) + (ρ 1))) (y' := ((ρ 2))) (by show 0 + (1 * ρ 0 + (1 * ρ 1 + 0)) = _; omega) (by show 0 + (1 * ρ 2 + 0) = _; omega) (hm _ (List.mem_cons_of_mem _ List.mem_cons_self))) hG
  obtain ⟨k0, -⟩ := H
  exact ⟨_, List.mem_cons_self, ρ, fun _ _ => rfl, (okM_c (pvp 80 (by show 1 + (16 * ρ 0 + (1 * ρ 1 + 0)) = _; omega) (by show 0 + 0 = _; omega) k0) okM_n), okB_n, okF_n⟩
-- grx
theorem cr_280 (M : pM) (s0 s1 : Int) (b0 : 0 ≤ s0 ∧ s0 ≤ 1900) (b1 : 0 ≤ s1 ∧ s1 ≤ 8) (m0 : HP 80 (16 * s0 + s1) (0 : Int) M) (f0 : 0 ≤ ((-1) * s1 + 8)) (f1 : 0 ≤ (s1 - 8)) (hG : gI M) : (HP 80 (16 * s0 + 8) (0 : Int) M ∧ True) := by
  have e : s1 = 8 := by omega
  subst e
  exact ⟨by have h := m0; rw [show 16 * s0 + 8 = 16 * s0 + 8 from rfl]; exact h, trivial⟩
theorem rul_280 : Rul r_280 := by
  refine ⟨fun _ ρ M hm hB hF hG => ?_, fun gi gv hg => (by cases hg)⟩
  have H := cr_280 M (ρ 0) (ρ 1) (hB _ List.mem_cons_self) (hB _ (List.mem_cons_of_mem _ List.mem_cons_self)) (cvp 80 (x' := (16 * (ρ 0) + (ρ 1))) (y' := (0 : Int)) (by show 0 + (16 * ρ 0 + (1 * ρ 1 + 0)) = _; omega) (by show 0 + 0 = _; omega) (hm _ List.mem_cons_self)) (by have h := hF _ List.mem_cons_self; have h : 0 ≤ 8 + ((-1) * ρ 1 + 0) := h; omega) (by have h := hF _ (List.mem_cons_of_mem _ List.mem_cons_self); have h : 0 ≤ (-8) + (1 * ρ 1 + 0) := h; omega) hG
  obtain ⟨k0, -⟩ := H
  exact ⟨_, List.mem_cons_self, ρ, fun _ _ => rfl, (okM_c (pvp 80 (by show 8 + (16 * ρ 0 + 0) = _; omega) (by show 0 + 0 = _; omega) k0) okM_n), okB_n, okF_n⟩
-- fi0_4
theorem cr_281 (M : pM)  (hG : gI M) : (HP 130 (0 : Int) (0 : Int) M ∧ True) := by
  exact ⟨Eq.mpr hp_130 ⟨by decide, fun i hi => by omega⟩, trivial⟩
theorem rul_281 : Rul r_281 := by
  refine ⟨fun _ ρ M hm hB hF hG => ?_, fun gi gv hg => (by cases hg)⟩
  have H := cr_281 M hG
  obtain ⟨k0, -⟩ := H
  exact ⟨_, List.mem_cons_self, ρ, fun _ _ => rfl, (okM_c (pvp 130 (by show 0 + 0 = _; omega) (by show 0 + 0 = _; omega) k0) okM_n), okB_n, okF_n⟩
-- fiw_4
theorem cr_282 (M : pM) (s0 : Int) (b0 : 0 ≤ s0 ∧ s0 ≤ 63) (m0 : HP 130 (s0) (0 : Int) M) (hG : gI M) : (HP 130 (s0 + 1) (0 : Int) (st M 4 (s0).toNat (0 : Int)) ∧ True) := by
  refine ⟨Eq.mpr hp_130 ⟨by omega, fun i hi => ?_⟩, trivial⟩
  rw [cw0]
  by_cases e : i = (s0).toNat
  · rw [if_pos e]
  · rw [if_neg e]; exact (Eq.mp hp_130 m0).2 i (by omega)
theorem rul_282 : Rul r_282 := by
  refine ⟨fun h => (by cases h), fun gi gv hg ρ M hm hB hF hG => ?_⟩
  obtain ⟨g1, g2⟩ := List.cons.inj (show ([aI ((0 : Int), ([(0, 1)] : List (Nat × Int))), aI ((0 : Int), ([] : List (Nat × Int)))] : List av) = [.inl gi, .inl gv] from hg)
  obtain ⟨g2, -⟩ := List.cons.inj g2
  cases g1
  cases g2
  have ei : ev ρ ((0 : Int), ([(0, 1)] : List (Nat × Int))) = ((ρ 0)) := by show 0 + (1 * ρ 0 + 0) = _; omega
  have ew : ev ρ ((0 : Int), ([] : List (Nat × Int))) = (0 : Int) := by show 0 + 0 = _; omega
  rw [show (st M (ctj r_282) (ev ρ ((0 : Int), ([(0, 1)] : List (Nat × Int)))).toNat (ev ρ ((0 : Int), ([] : List (Nat × Int))))) = (st M 4 ((ρ 0)).toNat (0 : Int)) from by rw [ei, ew]; rfl]
  have H := cr_282 M (ρ 0) (hB _ List.mem_cons_self) (cvp 130 (x' := ((ρ 0))) (y' := (0 : Int)) (by show 0 + (1 * ρ 0 + 0) = _; omega) (by show 0 + 0 = _; omega) (hm _ List.mem_cons_self)) hG
  obtain ⟨k0, -⟩ := H
  exact ⟨_, List.mem_cons_self, ρ, fun _ _ => rfl, (okM_c (pvp 130 (by show 1 + (1 * ρ 0 + 0) = _; omega) (by show 0 + 0 = _; omega) k0) okM_n), okB_n, okF_n⟩
-- fix_4
theorem cr_283 (M : pM) (s0 : Int) (b0 : 0 ≤ s0 ∧ s0 ≤ 64) (m0 : HP 130 (s0) (0 : Int) M) (f0 : 0 ≤ (s0 - 64)) (hG : gI M) : (HP 130 (64 : Int) (0 : Int) M ∧ True) := by
  exact ⟨Eq.mpr hp_130 ⟨by decide, fun i hi => (Eq.mp hp_130 m0).2 i (by omega)⟩, trivial⟩
theorem rul_283 : Rul r_283 := by
  refine ⟨fun _ ρ M hm hB hF hG => ?_, fun gi gv hg => (by cases hg)⟩
  have H := cr_283 M (ρ 0) (hB _ List.mem_cons_self) (cvp 130 (x' := ((ρ 0))) (y' := (0 : Int)) (by show 0 + (1 * ρ 0 + 0) = _; omega) (by show 0 + 0 = _; omega) (hm _ List.mem_cons_self)) (by have h := hF _ List.mem_cons_self; have h : 0 ≤ (-64) + (1 * ρ 0 + 0) := h; omega) hG
  obtain ⟨k0, -⟩ := H
  exact ⟨_, List.mem_cons_self, ρ, fun _ _ => rfl, (okM_c (pvp 130 (by show 64 + 0 = _; omega) (by show 0 + 0 = _; omega) k0) okM_n), okB_n, okF_n⟩
-- fi0_5
theorem cr_284 (M : pM)  (hG : gI M) : (HP 131 (0 : Int) (0 : Int) M ∧ True) := by
  exact ⟨Eq.mpr hp_131 ⟨by decide, fun i hi => by omega⟩, trivial⟩
theorem rul_284 : Rul r_284 := by
  refine ⟨fun _ ρ M hm hB hF hG => ?_, fun gi gv hg => (by cases hg)⟩
  have H := cr_284 M hG
  obtain ⟨k0, -⟩ := H
  exact ⟨_, List.mem_cons_self, ρ, fun _ _ => rfl, (okM_c (pvp 131 (by show 0 + 0 = _; omega) (by show 0 + 0 = _; omega) k0) okM_n), okB_n, okF_n⟩
-- fiw_5
theorem cr_285 (M : pM) (s0 : Int) (b0 : 0 ≤ s0 ∧ s0 ≤ 47) (m0 : HP 131 (s0) (0 : Int) M) (hG : gI M) : (HP 131 (s0 + 1) (0 : Int) (st M 5 (s0).toNat (0 : Int)) ∧ True) := by
  refine ⟨Eq.mpr hp_131 ⟨by omega, fun i hi => ?_⟩, trivial⟩
  rw [cw0]
  by_cases e : i = (s0).toNat
  · rw [if_pos e]
  · rw [if_neg e]; exact (Eq.mp hp_131 m0).2 i (by omega)
theorem rul_285 : Rul r_285 := by
  refine ⟨fun h => (by cases h), fun gi gv hg ρ M hm hB hF hG => ?_⟩
  obtain ⟨g1, g2⟩ := List.cons.inj (show ([aI ((0 : Int), ([(0, 1)] : List (Nat × Int))), aI ((0 : Int), ([] : List (Nat × Int)))] : List av) = [.inl gi, .inl gv] from hg)
  obtain ⟨g2, -⟩ := List.cons.inj g2
  cases g1
  cases g2
  have ei : ev ρ ((0 : Int), ([(0, 1)] : List (Nat × Int))) = ((ρ 0)) := by show 0 + (1 * ρ 0 + 0) = _; omega
  have ew : ev ρ ((0 : Int), ([] : List (Nat × Int))) = (0 : Int) := by show 0 + 0 = _; omega
  rw [show (st M (ctj r_285) (ev ρ ((0 : Int), ([(0, 1)] : List (Nat × Int)))).toNat (ev ρ ((0 : Int), ([] : List (Nat × Int))))) = (st M 5 ((ρ 0)).toNat (0 : Int)) from by rw [ei, ew]; rfl]
  have H := cr_285 M (ρ 0) (hB _ List.mem_cons_self) (cvp 131 (x' := ((ρ 0))) (y' := (0 : Int)) (by show 0 + (1 * ρ 0 + 0) = _; omega) (by show 0 + 0 = _; omega) (hm _ List.mem_cons_self)) hG
  obtain ⟨k0, -⟩ := H
  exact ⟨_, List.mem_cons_self, ρ, fun _ _ => rfl, (okM_c (pvp 131 (by show 1 + (1 * ρ 0 + 0) = _; omega) (by show 0 + 0 = _; omega) k0) okM_n), okB_n, okF_n⟩
-- fix_5
theorem cr_286 (M : pM) (s0 : Int) (b0 : 0 ≤ s0 ∧ s0 ≤ 48) (m0 : HP 131 (s0) (0 : Int) M) (f0 : 0 ≤ (s0 - 48)) (hG : gI M) : (HP 131 (48 : Int) (0 : Int) M ∧ True) := by
  exact ⟨Eq.mpr hp_131 ⟨by decide, fun i hi => (Eq.mp hp_131 m0).2 i (by omega)⟩, trivial⟩
theorem rul_286 : Rul r_286 := by
  refine ⟨fun _ ρ M hm hB hF hG => ?_, fun gi gv hg => (by cases hg)⟩
  have H := cr_286 M (ρ 0) (hB _ List.mem_cons_self) (cvp 131 (x' := ((ρ 0))) (y' := (0 : Int)) (by show 0 + (1 * ρ 0 + 0) = _; omega) (by show 0 + 0 = _; omega) (hm _ List.mem_cons_self)) (by have h := hF _ List.mem_cons_self; have h : 0 ≤ (-48) + (1 * ρ 0 + 0) := h; omega) hG
  obtain ⟨k0, -⟩ := H
  exact ⟨_, List.mem_cons_self, ρ, fun _ _ => rfl, (okM_c (pvp 131 (by show 48 + 0 = _; omega) (by show 0 + 0 = _; omega) k0) okM_n), okB_n, okF_n⟩
-- fi0_6
theorem cr_287 (M : pM)  (hG : gI M) : (HP 132 (0 : Int) (-1 : Int) M ∧ True) := by
  exact ⟨Eq.mpr hp_132 ⟨by decide, fun i hi => by omega⟩, trivial⟩
theorem rul_287 : Rul r_287 := by
  refine ⟨fun _ ρ M hm hB hF hG => ?_, fun gi gv hg => (by cases hg)⟩
  have H := cr_287 M hG
  obtain ⟨k0, -⟩ := H
  exact ⟨_, List.mem_cons_self, ρ, fun _ _ => rfl, (okM_c (pvp 132 (by show 0 + 0 = _; omega) (by show (-1) + 0 = _; omega) k0) okM_n), okB_n, okF_n⟩
-- fiw_6
theorem cr_288 (M : pM) (s0 : Int) (b0 : 0 ≤ s0 ∧ s0 ≤ 5) (m0 : HP 132 (s0) (-1 : Int) M) (hG : gI M) : (HP 132 (s0 + 1) (-1 : Int) (st M 6 (s0).toNat (-1 : Int)) ∧ True) := by
  refine ⟨Eq.mpr hp_132 ⟨by omega, fun i hi => ?_⟩, trivial⟩
  rw [cw0]
  by_cases e : i = (s0).toNat
  · rw [if_pos e]
  · rw [if_neg e]; exact (Eq.mp hp_132 m0).2 i (by omega)
theorem rul_288 : Rul r_288 := by
  refine ⟨fun h => (by cases h), fun gi gv hg ρ M hm hB hF hG => ?_⟩
  obtain ⟨g1, g2⟩ := List.cons.inj (show ([aI ((0 : Int), ([(0, 1)] : List (Nat × Int))), aI (((-1) : Int), ([] : List (Nat × Int)))] : List av) = [.inl gi, .inl gv] from hg)
  obtain ⟨g2, -⟩ := List.cons.inj g2
  cases g1
  cases g2
  have ei : ev ρ ((0 : Int), ([(0, 1)] : List (Nat × Int))) = ((ρ 0)) := by show 0 + (1 * ρ 0 + 0) = _; omega
  have ew : ev ρ (((-1) : Int), ([] : List (Nat × Int))) = (-1 : Int) := by show (-1) + 0 = _; omega
  rw [show (st M (ctj r_288) (ev ρ ((0 : Int), ([(0, 1)] : List (Nat × Int)))).toNat (ev ρ (((-1) : Int), ([] : List (Nat × Int))))) = (st M 6 ((ρ 0)).toNat (-1 : Int)) from by rw [ei, ew]; rfl]
  have H := cr_288 M (ρ 0) (hB _ List.mem_cons_self) (cvp 132 (x' := ((ρ 0))) (y' := (-1 : Int)) (by show 0 + (1 * ρ 0 + 0) = _; omega) (by show (-1) + 0 = _; omega) (hm _ List.mem_cons_self)) hG
  obtain ⟨k0, -⟩ := H
  exact ⟨_, List.mem_cons_self, ρ, fun _ _ => rfl, (okM_c (pvp 132 (by show 1 + (1 * ρ 0 + 0) = _; omega) (by show (-1) + 0 = _; omega) k0) okM_n), okB_n, okF_n⟩
-- fix_6
theorem cr_289 (M : pM) (s0 : Int) (b0 : 0 ≤ s0 ∧ s0 ≤ 6) (m0 : HP 132 (s0) (-1 : Int) M) (f0 : 0 ≤ (s0 - 6)) (hG : gI M) : (HP 132 (6 : Int) (-1 : Int) M ∧ True) := by
  exact ⟨Eq.mpr hp_132 ⟨by decide, fun i hi => (Eq.mp hp_132 m0).2 i (by omega)⟩, trivial⟩
theorem rul_289 : Rul r_289 := by
  refine ⟨fun _ ρ M hm hB hF hG => ?_, fun gi gv hg => (by cases hg)⟩
  have H := cr_289 M (ρ 0) (hB _ List.mem_cons_self) (cvp 132 (x' := ((ρ 0))) (y' := (-1 : Int)) (by show 0 + (1 * ρ 0 + 0) = _; omega) (by show (-1) + 0 = _; omega) (hm _ List.mem_cons_self)) (by have h := hF _ List.mem_cons_self; have h : 0 ≤ (-6) + (1 * ρ 0 + 0) := h; omega) hG
  obtain ⟨k0, -⟩ := H
  exact ⟨_, List.mem_cons_self, ρ, fun _ _ => rfl, (okM_c (pvp 132 (by show 6 + 0 = _; omega) (by show (-1) + 0 = _; omega) k0) okM_n), okB_n, okF_n⟩
-- fi0_7
theorem cr_290 (M : pM)  (hG : gI M) : (HP 133 (0 : Int) (-1 : Int) M ∧ True) := by
  exact ⟨Eq.mpr hp_133 ⟨by decide, fun i hi => by omega⟩, trivial⟩
theorem rul_290 : Rul r_290 := by
  refine ⟨fun _ ρ M hm hB hF hG => ?_, fun gi gv hg => (by cases hg)⟩
  have H := cr_290 M hG
  obtain ⟨k0, -⟩ := H
  exact ⟨_, List.mem_cons_self, ρ, fun _ _ => rfl, (okM_c (pvp 133 (by show 0 + 0 = _; omega) (by show (-1) + 0 = _; omega) k0) okM_n), okB_n, okF_n⟩
-- fiw_7
theorem cr_291 (M : pM) (s0 : Int) (b0 : 0 ≤ s0 ∧ s0 ≤ 5) (m0 : HP 133 (s0) (-1 : Int) M) (hG : gI M) : (HP 133 (s0 + 1) (-1 : Int) (st M 7 (s0).toNat (-1 : Int)) ∧ True) := by
  refine ⟨Eq.mpr hp_133 ⟨by omega, fun i hi => ?_⟩, trivial⟩
  rw [cw0]
  by_cases e : i = (s0).toNat
  · rw [if_pos e]
  · rw [if_neg e]; exact (Eq.mp hp_133 m0).2 i (by omega)
theorem rul_291 : Rul r_291 := by
  refine ⟨fun h => (by cases h), fun gi gv hg ρ M hm hB hF hG => ?_⟩
  obtain ⟨g1, g2⟩ := List.cons.inj (show ([aI ((0 : Int), ([(0, 1)] : List (Nat × Int))), aI (((-1) : Int), ([] : List (Nat × Int)))] : List av) = [.inl gi, .inl gv] from hg)
  obtain ⟨g2, -⟩ := List.cons.inj g2
  cases g1
  cases g2
  have ei : ev ρ ((0 : Int), ([(0, 1)] : List (Nat × Int))) = ((ρ 0)) := by show 0 + (1 * ρ 0 + 0) = _; omega
  have ew : ev ρ (((-1) : Int), ([] : List (Nat × Int))) = (-1 : Int) := by show (-1) + 0 = _; omega
  rw [show (st M (ctj r_291) (ev ρ ((0 : Int), ([(0, 1)] : List (Nat × Int)))).toNat (ev ρ (((-1) : Int), ([] : List (Nat × Int))))) = (st M 7 ((ρ 0)).toNat (-1 : Int)) from by rw [ei, ew]; rfl]
  have H := cr_291 M (ρ 0) (hB _ List.mem_cons_self) (cvp 133 (x' := ((ρ 0))) (y' := (-1 : Int)) (by show 0 + (1 * ρ 0 + 0) = _; omega) (by show (-1) + 0 = _; omega) (hm _ List.mem_cons_self)) hG
  obtain ⟨k0, -⟩ := H
  exact ⟨_, List.mem_cons_self, ρ, fun _ _ => rfl, (okM_c (pvp 133 (by show 1 + (1 * ρ 0 + 0) = _; omega) (by show (-1) + 0 = _; omega) k0) okM_n), okB_n, okF_n⟩
-- fix_7
theorem cr_292 (M : pM) (s0 : Int) (b0 : 0 ≤ s0 ∧ s0 ≤ 6) (m0 : HP 133 (s0) (-1 : Int) M) (f0 : 0 ≤ (s0 - 6)) (hG : gI M) : (HP 133 (6 : Int) (-1 : Int) M ∧ True) := by
  exact ⟨Eq.mpr hp_133 ⟨by decide, fun i hi => (Eq.mp hp_133 m0).2 i (by omega)⟩, trivial⟩
theorem rul_292 : Rul r_292 := by
  refine ⟨fun _ ρ M hm hB hF hG => ?_, fun gi gv hg => (by cases hg)⟩
  have H := cr_292 M (ρ 0) (hB _ List.mem_cons_self) (cvp 133 (x' := ((ρ 0))) (y' := (-1 : Int)) (by show 0 + (1 * ρ 0 + 0) = _; omega) (by show (-1) + 0 = _; omega) (hm _ List.mem_cons_self)) (by have h := hF _ List.mem_cons_self; have h : 0 ≤ (-6) + (1 * ρ 0 + 0) := h; omega) hG
  obtain ⟨k0, -⟩ := H
  exact ⟨_, List.mem_cons_self, ρ, fun _ _ => rfl, (okM_c (pvp 133 (by show 6 + 0 = _; omega) (by show (-1) + 0 = _; omega) k0) okM_n), okB_n, okF_n⟩
-- ca0_0
theorem cr_293 (M : pM) (m0 : HP 130 (64 : Int) (0 : Int) M) (m1 : HP 131 (48 : Int) (0 : Int) M) (m2 : HP 132 (6 : Int) (-1 : Int) M) (m3 : HP 133 (6 : Int) (-1 : Int) M) (hG : gI M) : (HP 54 (0 : Int) (0 : Int) M ∧ HP 71 (0 : Int) (0 : Int) M ∧ HP 72 (0 : Int) (0 : Int) M ∧ HP 94 (0 : Int) (0 : Int) M ∧ True) := by
  have q0 : qat (tm M) 0 (0, qA0) := ⟨0, by decide, by decide, rfl⟩
  refine ⟨Eq.mpr hp_54 ⟨(0, qA0), q0, ⟨by decide, by decide, by decide, by decide⟩, ?_⟩, Eq.mpr hp_71 ⟨(0, qA0), q0, fun i hi => (qb4_0 i hi).trans rfl⟩, Eq.mpr hp_72 ⟨(0, qA0), q0, fun i hi => (qb4_0 i hi).trans rfl⟩, Eq.mpr hp_94 ⟨(0, qA0), q0, fun i hi => (qb8_0 i hi).trans rfl⟩, trivial⟩
  refine ⟨fun i hi => (Eq.mp hp_130 m0).2 i (by omega), fun i hi => (Eq.mp hp_131 m1).2 i (by omega), fun i hi => (Eq.mp hp_132 m2).2 i (by omega), fun i hi => by show (-1 : Int) ≤ -1 ∧ (0 : Int) ≤ 0; omega, fun i hi => (Eq.mp hp_133 m3).2 i (by omega), fun i hi hw => ?_, fun i hi hw => ?_, fun i hi hw => ?_, fun i j hi hj hw => ?_⟩
  all_goals (have hw : (i : Int) < 0 := hw; omega)
theorem rul_293 : Rul r_293 := by
  refine ⟨fun _ ρ M hm hB hF hG => ?_, fun gi gv hg => (by cases hg)⟩
  have H := cr_293 M (cvp 130 (x' := (64 : Int)) (y' := (0 : Int)) (by show 64 + 0 = _; omega) (by show 0 + 0 = _; omega) (hm _ List.mem_cons_self)) (cvp 131 (x' := (48 : Int)) (y' := (0 : Int)) (by show 48 + 0 = _; omega) (by show 0 + 0 = _; omega) (hm _ (List.mem_cons_of_mem _ List.mem_cons_self))) (cvp 132 (x' := (6 : Int)) (y' := (-1 : Int)) (by show 6 + 0 = _; omega) (by show (-1) + 0 = _; omega) (hm _ (List.mem_cons_of_mem _ (List.mem_cons_of_mem _ List.mem_cons_self)))) (cvp 133 (x' := (6 : Int)) (y' := (-1 : Int)) (by show 6 + 0 = _; omega) (by show (-1) + 0 = _; omega) (hm _ (List.mem_cons_of_mem _ (List.mem_cons_of_mem _ (List.mem_cons_of_mem _ List.mem_cons_self))))) hG
  obtain ⟨k0, k1, k2, k3, -⟩ := H
  exact ⟨_, List.mem_cons_self, ρ, fun _ _ => rfl, (okM_c (pvp 54 (by show 0 + 0 = _; omega) (by show 0 + 0 = _; omega) k0) (okM_c (pvp 71 (by show 0 + 0 = _; omega) (by show 0 + 0 = _; omega) k1) (okM_c (pvp 72 (by show 0 + 0 = _; omega) (by show 0 + 0 = _; omega) k2) (okM_c (pvp 94 (by show 0 + 0 = _; omega) (by show 0 + 0 = _; omega) k3) okM_n)))), okB_n, okF_n⟩
-- fi0_13
theorem cr_294 (M : pM)  (hG : gI M) : (HP 134 (0 : Int) (0 : Int) M ∧ True) := by
  exact ⟨Eq.mpr hp_134 ⟨by decide, fun i hi => by omega⟩, trivial⟩
theorem rul_294 : Rul r_294 := by
  refine ⟨fun _ ρ M hm hB hF hG => ?_, fun gi gv hg => (by cases hg)⟩
  have H := cr_294 M hG
  obtain ⟨k0, -⟩ := H
  exact ⟨_, List.mem_cons_self, ρ, fun _ _ => rfl, (okM_c (pvp 134 (by show 0 + 0 = _; omega) (by show 0 + 0 = _; omega) k0) okM_n), okB_n, okF_n⟩
-- fiw_13
theorem cr_295 (M : pM) (s0 : Int) (b0 : 0 ≤ s0 ∧ s0 ≤ 63) (m0 : HP 134 (s0) (0 : Int) M) (hG : gI M) : (HP 134 (s0 + 1) (0 : Int) (st M 13 (s0).toNat (0 : Int)) ∧ True) := by
  refine ⟨Eq.mpr hp_134 ⟨by omega, fun i hi => ?_⟩, trivial⟩
  rw [cw0]
  by_cases e : i = (s0).toNat
  · rw [if_pos e]
  · rw [if_neg e]; exact (Eq.mp hp_134 m0).2 i (by omega)
theorem rul_295 : Rul r_295 := by
  refine ⟨fun h => (by cases h), fun gi gv hg ρ M hm hB hF hG => ?_⟩
  obtain ⟨g1, g2⟩ := List.cons.inj (show ([aI ((0 : Int), ([(0, 1)] : List (Nat × Int))), aI ((0 : Int), ([] : List (Nat × Int)))] : List av) = [.inl gi, .inl gv] from hg)
  obtain ⟨g2, -⟩ := List.cons.inj g2
  cases g1
  cases g2
  have ei : ev ρ ((0 : Int), ([(0, 1)] : List (Nat × Int))) = ((ρ 0)) := by show 0 + (1 * ρ 0 + 0) = _; omega
  have ew : ev ρ ((0 : Int), ([] : List (Nat × Int))) = (0 : Int) := by show 0 + 0 = _; omega
  rw [show (st M (ctj r_295) (ev ρ ((0 : Int), ([(0, 1)] : List (Nat × Int)))).toNat (ev ρ ((0 : Int), ([] : List (Nat × Int))))) = (st M 13 ((ρ 0)).toNat (0 : Int)) from by rw [ei, ew]; rfl]
  have H := cr_295 M (ρ 0) (hB _ List.mem_cons_self) (cvp 134 (x' := ((ρ 0))) (y' := (0 : Int)) (by show 0 + (1 * ρ 0 + 0) = _; omega) (by show 0 + 0 = _; omega) (hm _ List.mem_cons_self)) hG
  obtain ⟨k0, -⟩ := H
  exact ⟨_, List.mem_cons_self, ρ, fun _ _ => rfl, (okM_c (pvp 134 (by show 1 + (1 * ρ 0 + 0) = _; omega) (by show 0 + 0 = _; omega) k0) okM_n), okB_n, okF_n⟩
-- fix_13
theorem cr_296 (M : pM) (s0 : Int) (b0 : 0 ≤ s0 ∧ s0 ≤ 64) (m0 : HP 134 (s0) (0 : Int) M) (f0 : 0 ≤ (s0 - 64)) (hG : gI M) : (HP 134 (64 : Int) (0 : Int) M ∧ True) := by
  exact ⟨Eq.mpr hp_134 ⟨by decide, fun i hi => (Eq.mp hp_134 m0).2 i (by omega)⟩, trivial⟩
theorem rul_296 : Rul r_296 := by
  refine ⟨fun _ ρ M hm hB hF hG => ?_, fun gi gv hg => (by cases hg)⟩
  have H := cr_296 M (ρ 0) (hB _ List.mem_cons_self) (cvp 134 (x' := ((ρ 0))) (y' := (0 : Int)) (by show 0 + (1 * ρ 0 + 0) = _; omega) (by show 0 + 0 = _; omega) (hm _ List.mem_cons_self)) (by have h := hF _ List.mem_cons_self; have h : 0 ≤ (-64) + (1 * ρ 0 + 0) := h; omega) hG
  obtain ⟨k0, -⟩ := H
  exact ⟨_, List.mem_cons_self, ρ, fun _ _ => rfl, (okM_c (pvp 134 (by show 64 + 0 = _; omega) (by show 0 + 0 = _; omega) k0) okM_n), okB_n, okF_n⟩
-- fi0_14
theorem cr_297 (M : pM)  (hG : gI M) : (HP 135 (0 : Int) (0 : Int) M ∧ True) := by
  exact ⟨Eq.mpr hp_135 ⟨by decide, fun i hi => by omega⟩, trivial⟩
theorem rul_297 : Rul r_297 := by
  refine ⟨fun _ ρ M hm hB hF hG => ?_, fun gi gv hg => (by cases hg)⟩
  have H := cr_297 M hG
  obtain ⟨k0, -⟩ := H
  exact ⟨_, List.mem_cons_self, ρ, fun _ _ => rfl, (okM_c (pvp 135 (by show 0 + 0 = _; omega) (by show 0 + 0 = _; omega) k0) okM_n), okB_n, okF_n⟩
-- fiw_14
theorem cr_298 (M : pM) (s0 : Int) (b0 : 0 ≤ s0 ∧ s0 ≤ 47) (m0 : HP 135 (s0) (0 : Int) M) (hG : gI M) : (HP 135 (s0 + 1) (0 : Int) (st M 14 (s0).toNat (0 : Int)) ∧ True) := by
  refine ⟨Eq.mpr hp_135 ⟨by omega, fun i hi => ?_⟩, trivial⟩
  rw [cw0]
  by_cases e : i = (s0).toNat
  · rw [if_pos e]
  · rw [if_neg e]; exact (Eq.mp hp_135 m0).2 i (by omega)
theorem rul_298 : Rul r_298 := by
  refine ⟨fun h => (by cases h), fun gi gv hg ρ M hm hB hF hG => ?_⟩
  obtain ⟨g1, g2⟩ := List.cons.inj (show ([aI ((0 : Int), ([(0, 1)] : List (Nat × Int))), aI ((0 : Int), ([] : List (Nat × Int)))] : List av) = [.inl gi, .inl gv] from hg)
  obtain ⟨g2, -⟩ := List.cons.inj g2
  cases g1
  cases g2
  have ei : ev ρ ((0 : Int), ([(0, 1)] : List (Nat × Int))) = ((ρ 0)) := by show 0 + (1 * ρ 0 + 0) = _; omega
  have ew : ev ρ ((0 : Int), ([] : List (Nat × Int))) = (0 : Int) := by show 0 + 0 = _; omega
  rw [show (st M (ctj r_298) (ev ρ ((0 : Int), ([(0, 1)] : List (Nat × Int)))).toNat (ev ρ ((0 : Int), ([] : List (Nat × Int))))) = (st M 14 ((ρ 0)).toNat (0 : Int)) from by rw [ei, ew]; rfl]
  have H := cr_298 M (ρ 0) (hB _ List.mem_cons_self) (cvp 135 (x' := ((ρ 0))) (y' := (0 : Int)) (by show 0 + (1 * ρ 0 + 0) = _; omega) (by show 0 + 0 = _; omega) (hm _ List.mem_cons_self)) hG
  obtain ⟨k0, -⟩ := H
  exact ⟨_, List.mem_cons_self, ρ, fun _ _ => rfl, (okM_c (pvp 135 (by show 1 + (1 * ρ 0 + 0) = _; omega) (by show 0 + 0 = _; omega) k0) okM_n), okB_n, okF_n⟩
-- fix_14
theorem cr_299 (M : pM) (s0 : Int) (b0 : 0 ≤ s0 ∧ s0 ≤ 48) (m0 : HP 135 (s0) (0 : Int) M) (f0 : 0 ≤ (s0 - 48)) (hG : gI M) : (HP 135 (48 : Int) (0 : Int) M ∧ True) := by
  exact ⟨Eq.mpr hp_135 ⟨by decide, fun i hi => (Eq.mp hp_135 m0).2 i (by omega)⟩, trivial⟩
theorem rul_299 : Rul r_299 := by
  refine ⟨fun _ ρ M hm hB hF hG => ?_, fun gi gv hg => (by cases hg)⟩
  have H := cr_299 M (ρ 0) (hB _ List.mem_cons_self) (cvp 135 (x' := ((ρ 0))) (y' := (0 : Int)) (by show 0 + (1 * ρ 0 + 0) = _; omega) (by show 0 + 0 = _; omega) (hm _ List.mem_cons_self)) (by have h := hF _ List.mem_cons_self; have h : 0 ≤ (-48) + (1 * ρ 0 + 0) := h; omega) hG
  obtain ⟨k0, -⟩ := H
  exact ⟨_, List.mem_cons_self, ρ, fun _ _ => rfl, (okM_c (pvp 135 (by show 48 + 0 = _; omega) (by show 0 + 0 = _; omega) k0) okM_n), okB_n, okF_n⟩
