theorem utz {x y : Int} : (vi x = vi y ∧ (y = 0 ∨ y = 1)) ↔ ((x = 0 ∨ x = 1) ∧ y = x) := by
  refine ⟨fun h => ?_, fun h => ?_⟩
  · obtain ⟨h1, h2⟩ := h; cases h1; exact ⟨h2, rfl⟩
  · obtain ⟨h1, rfl⟩ := h; exact ⟨rfl, h1⟩
theorem fe_0 : (7, 9, 7, 0, 225, 0) ∈ fldL := by decide +kernel
theorem g_0 {O : pO} {j n0 : Nat} {Q : pQ} {pc : Nat} {L : pL} {S : List pv} {n : Nat} {M : pM} {a : Nat} (hm : mO j = 7) (hd : decode (mB j) pc = .ok (.getfield 9, 3)) : J O j n0 Q pc L (vr (a + 1) :: S) n M = (ob n a = 7 ∧ J O j n0 Q (pc + 3) L (vr (M a 0).toNat :: S) n M) := J_get fe_0 (by rw [hm]) hd
theorem p_0 {O : pO} {j n0 : Nat} {Q : pQ} {pc : Nat} {L : pL} {S : List pv} {n : Nat} {M : pM} {a b : Nat} (hm : mO j = 7) (hi : (mY j).name = "<init>") (hd : decode (mB j) pc = .ok (.putfield 9, 3)) : J O j n0 Q pc L (vr b :: vr (a + 1) :: S) n M = (ob n a = 7 ∧ J O j n0 Q (pc + 3) L S n (st M a 0 (b : Int))) := (J_put (C := True) (x := (b : Int)) fe_0 (by rw [hm]) (Or.inr ⟨hi, hm.symm, rfl⟩) (fun y => by show (∃ k : Nat, vr b = vr k ∧ y = (k : Int)) ↔ _; refine ⟨fun h => ?_, fun h => ⟨b, rfl, h.2⟩⟩; obtain ⟨k, h1, h2⟩ := h; cases h1; exact ⟨trivial, h2⟩) hd).trans (by simp only [true_and])
theorem fe_1 : (7, 21, 7, 1, 226, 0) ∈ fldL := by decide +kernel
theorem g_1 {O : pO} {j n0 : Nat} {Q : pQ} {pc : Nat} {L : pL} {S : List pv} {n : Nat} {M : pM} {a : Nat} (hm : mO j = 7) (hd : decode (mB j) pc = .ok (.getfield 21, 3)) : J O j n0 Q pc L (vr (a + 1) :: S) n M = (ob n a = 7 ∧ J O j n0 Q (pc + 3) L (vi (M a 1) :: S) n M) := J_get fe_1 (by rw [hm]) hd
theorem p_1 {O : pO} {j n0 : Nat} {Q : pQ} {pc : Nat} {L : pL} {S : List pv} {n : Nat} {M : pM} {a : Nat} {x : Int} (hm : mO j = 7) (hd : decode (mB j) pc = .ok (.putfield 21, 3)) : J O j n0 Q pc L (vi x :: vr (a + 1) :: S) n M = (ob n a = 7 ∧ J O j n0 Q (pc + 3) L S n (st M a 1 x)) := (J_put (C := True) (x := x) fe_1 (by rw [hm]) (Or.inl rfl) (fun y => by show (vi x = vi y) ↔ _; simp [eq_comm]) hd).trans (by simp only [true_and])
theorem fe_2 : (7, 25, 7, 2, 227, 0) ∈ fldL := by decide +kernel
theorem g_2 {O : pO} {j n0 : Nat} {Q : pQ} {pc : Nat} {L : pL} {S : List pv} {n : Nat} {M : pM} {a : Nat} (hm : mO j = 7) (hd : decode (mB j) pc = .ok (.getfield 25, 3)) : J O j n0 Q pc L (vr (a + 1) :: S) n M = (ob n a = 7 ∧ J O j n0 Q (pc + 3) L (vi (M a 2) :: S) n M) := J_get fe_2 (by rw [hm]) hd
theorem p_2 {O : pO} {j n0 : Nat} {Q : pQ} {pc : Nat} {L : pL} {S : List pv} {n : Nat} {M : pM} {a : Nat} {x : Int} (hm : mO j = 7) (hd : decode (mB j) pc = .ok (.putfield 25, 3)) : J O j n0 Q pc L (vi x :: vr (a + 1) :: S) n M = (ob n a = 7 ∧ J O j n0 Q (pc + 3) L S n (st M a 2 x)) := (J_put (C := True) (x := x) fe_2 (by rw [hm]) (Or.inl rfl) (fun y => by show (vi x = vi y) ↔ _; simp [eq_comm]) hd).trans (by simp only [true_and])
theorem fe_3 : (5, 30, 7, 3, 228, 1) ∈ fldL := by decide +kernel
theorem g_3 {O : pO} {j n0 : Nat} {Q : pQ} {pc : Nat} {L : pL} {S : List pv} {n : Nat} {M : pM} {a : Nat} (hm : mO j = 5) (hd : decode (mB j) pc = .ok (.getfield 30, 3)) : J O j n0 Q pc L (vr (a + 1) :: S) n M = (ob n a = 7 ∧ J O j n0 Q (pc + 3) L (vi (M a 3) :: S) n M) := J_get fe_3 (by rw [hm]) hd
theorem p_3 {O : pO} {j n0 : Nat} {Q : pQ} {pc : Nat} {L : pL} {S : List pv} {n : Nat} {M : pM} {a : Nat} {x : Int} (hm : mO j = 5) (hd : decode (mB j) pc = .ok (.putfield 30, 3)) : J O j n0 Q pc L (vi x :: vr (a + 1) :: S) n M = (ob n a = 7 ∧ J O j n0 Q (pc + 3) L S n (st M a 3 x)) := (J_put (C := True) (x := x) fe_3 (by rw [hm]) (Or.inl rfl) (fun y => by show (vi x = vi y) ↔ _; simp [eq_comm]) hd).trans (by simp only [true_and])
theorem fe_4 : (3, 49, 7, 3, 229, 1) ∈ fldL := by decide +kernel
theorem g_4 {O : pO} {j n0 : Nat} {Q : pQ} {pc : Nat} {L : pL} {S : List pv} {n : Nat} {M : pM} {a : Nat} (hm : mO j = 3) (hd : decode (mB j) pc = .ok (.getfield 49, 3)) : J O j n0 Q pc L (vr (a + 1) :: S) n M = (ob n a = 7 ∧ J O j n0 Q (pc + 3) L (vi (M a 3) :: S) n M) := J_get fe_4 (by rw [hm]) hd
theorem p_4 {O : pO} {j n0 : Nat} {Q : pQ} {pc : Nat} {L : pL} {S : List pv} {n : Nat} {M : pM} {a : Nat} {x : Int} (hm : mO j = 3) (hd : decode (mB j) pc = .ok (.putfield 49, 3)) : J O j n0 Q pc L (vi x :: vr (a + 1) :: S) n M = (ob n a = 7 ∧ J O j n0 Q (pc + 3) L S n (st M a 3 x)) := (J_put (C := True) (x := x) fe_4 (by rw [hm]) (Or.inl rfl) (fun y => by show (vi x = vi y) ↔ _; simp [eq_comm]) hd).trans (by simp only [true_and])
theorem fe_5 : (7, 50, 7, 3, 230, 0) ∈ fldL := by decide +kernel
theorem g_5 {O : pO} {j n0 : Nat} {Q : pQ} {pc : Nat} {L : pL} {S : List pv} {n : Nat} {M : pM} {a : Nat} (hm : mO j = 7) (hd : decode (mB j) pc = .ok (.getfield 50, 3)) : J O j n0 Q pc L (vr (a + 1) :: S) n M = (ob n a = 7 ∧ J O j n0 Q (pc + 3) L (vi (M a 3) :: S) n M) := J_get fe_5 (by rw [hm]) hd
theorem p_5 {O : pO} {j n0 : Nat} {Q : pQ} {pc : Nat} {L : pL} {S : List pv} {n : Nat} {M : pM} {a : Nat} {x : Int} (hm : mO j = 7) (hd : decode (mB j) pc = .ok (.putfield 50, 3)) : J O j n0 Q pc L (vi x :: vr (a + 1) :: S) n M = (ob n a = 7 ∧ J O j n0 Q (pc + 3) L S n (st M a 3 x)) := (J_put (C := True) (x := x) fe_5 (by rw [hm]) (Or.inl rfl) (fun y => by show (vi x = vi y) ↔ _; simp [eq_comm]) hd).trans (by simp only [true_and])
theorem fe_6 : (7, 34, 7, 4, 231, 0) ∈ fldL := by decide +kernel
theorem g_6 {O : pO} {j n0 : Nat} {Q : pQ} {pc : Nat} {L : pL} {S : List pv} {n : Nat} {M : pM} {a : Nat} (hm : mO j = 7) (hd : decode (mB j) pc = .ok (.getfield 34, 3)) : J O j n0 Q pc L (vr (a + 1) :: S) n M = (ob n a = 7 ∧ J O j n0 Q (pc + 3) L (vi (M a 4) :: S) n M) := J_get fe_6 (by rw [hm]) hd
theorem p_6 {O : pO} {j n0 : Nat} {Q : pQ} {pc : Nat} {L : pL} {S : List pv} {n : Nat} {M : pM} {a : Nat} {x : Int} (hm : mO j = 7) (hd : decode (mB j) pc = .ok (.putfield 34, 3)) : J O j n0 Q pc L (vi x :: vr (a + 1) :: S) n M = (ob n a = 7 ∧ J O j n0 Q (pc + 3) L S n (st M a 4 x)) := (J_put (C := True) (x := x) fe_6 (by rw [hm]) (Or.inl rfl) (fun y => by show (vi x = vi y) ↔ _; simp [eq_comm]) hd).trans (by simp only [true_and])
theorem fe_7 : (5, 34, 7, 5, 232, 1) ∈ fldL := by decide +kernel
theorem g_7 {O : pO} {j n0 : Nat} {Q : pQ} {pc : Nat} {L : pL} {S : List pv} {n : Nat} {M : pM} {a : Nat} (hm : mO j = 5) (hd : decode (mB j) pc = .ok (.getfield 34, 3)) : J O j n0 Q pc L (vr (a + 1) :: S) n M = (ob n a = 7 ∧ J O j n0 Q (pc + 3) L (vi (M a 5) :: S) n M) := J_get fe_7 (by rw [hm]) hd
theorem p_7 {O : pO} {j n0 : Nat} {Q : pQ} {pc : Nat} {L : pL} {S : List pv} {n : Nat} {M : pM} {a : Nat} {x : Int} (hm : mO j = 5) (hd : decode (mB j) pc = .ok (.putfield 34, 3)) : J O j n0 Q pc L (vi x :: vr (a + 1) :: S) n M = (ob n a = 7 ∧ J O j n0 Q (pc + 3) L S n (st M a 5 x)) := (J_put (C := True) (x := x) fe_7 (by rw [hm]) (Or.inl rfl) (fun y => by show (vi x = vi y) ↔ _; simp [eq_comm]) hd).trans (by simp only [true_and])
theorem fe_8 : (7, 43, 7, 5, 233, 0) ∈ fldL := by decide +kernel
theorem g_8 {O : pO} {j n0 : Nat} {Q : pQ} {pc : Nat} {L : pL} {S : List pv} {n : Nat} {M : pM} {a : Nat} (hm : mO j = 7) (hd : decode (mB j) pc = .ok (.getfield 43, 3)) : J O j n0 Q pc L (vr (a + 1) :: S) n M = (ob n a = 7 ∧ J O j n0 Q (pc + 3) L (vi (M a 5) :: S) n M) := J_get fe_8 (by rw [hm]) hd
theorem p_8 {O : pO} {j n0 : Nat} {Q : pQ} {pc : Nat} {L : pL} {S : List pv} {n : Nat} {M : pM} {a : Nat} {x : Int} (hm : mO j = 7) (hd : decode (mB j) pc = .ok (.putfield 43, 3)) : J O j n0 Q pc L (vi x :: vr (a + 1) :: S) n M = (ob n a = 7 ∧ J O j n0 Q (pc + 3) L S n (st M a 5 x)) := (J_put (C := True) (x := x) fe_8 (by rw [hm]) (Or.inl rfl) (fun y => by show (vi x = vi y) ↔ _; simp [eq_comm]) hd).trans (by simp only [true_and])
theorem fe_9 : (3, 79, 7, 5, 234, 1) ∈ fldL := by decide +kernel
theorem g_9 {O : pO} {j n0 : Nat} {Q : pQ} {pc : Nat} {L : pL} {S : List pv} {n : Nat} {M : pM} {a : Nat} (hm : mO j = 3) (hd : decode (mB j) pc = .ok (.getfield 79, 3)) : J O j n0 Q pc L (vr (a + 1) :: S) n M = (ob n a = 7 ∧ J O j n0 Q (pc + 3) L (vi (M a 5) :: S) n M) := J_get fe_9 (by rw [hm]) hd
theorem p_9 {O : pO} {j n0 : Nat} {Q : pQ} {pc : Nat} {L : pL} {S : List pv} {n : Nat} {M : pM} {a : Nat} {x : Int} (hm : mO j = 3) (hd : decode (mB j) pc = .ok (.putfield 79, 3)) : J O j n0 Q pc L (vi x :: vr (a + 1) :: S) n M = (ob n a = 7 ∧ J O j n0 Q (pc + 3) L S n (st M a 5 x)) := (J_put (C := True) (x := x) fe_9 (by rw [hm]) (Or.inl rfl) (fun y => by show (vi x = vi y) ↔ _; simp [eq_comm]) hd).trans (by simp only [true_and])
theorem fe_10 : (7, 40, 7, 6, 235, 0) ∈ fldL := by decide +kernel
theorem g_10 {O : pO} {j n0 : Nat} {Q : pQ} {pc : Nat} {L : pL} {S : List pv} {n : Nat} {M : pM} {a : Nat} (hm : mO j = 7) (hd : decode (mB j) pc = .ok (.getfield 40, 3)) : J O j n0 Q pc L (vr (a + 1) :: S) n M = (ob n a = 7 ∧ J O j n0 Q (pc + 3) L (vi (M a 6) :: S) n M) := J_get fe_10 (by rw [hm]) hd
theorem p_10 {O : pO} {j n0 : Nat} {Q : pQ} {pc : Nat} {L : pL} {S : List pv} {n : Nat} {M : pM} {a : Nat} {x : Int} (hm : mO j = 7) (hd : decode (mB j) pc = .ok (.putfield 40, 3)) : J O j n0 Q pc L (vi x :: vr (a + 1) :: S) n M = (ob n a = 7 ∧ J O j n0 Q (pc + 3) L S n (st M a 6 x)) := (J_put (C := True) (x := x) fe_10 (by rw [hm]) (Or.inl rfl) (fun y => by show (vi x = vi y) ↔ _; simp [eq_comm]) hd).trans (by simp only [true_and])
theorem fe_11 : (7, 28, 7, 7, 236, 0) ∈ fldL := by decide +kernel
theorem g_11 {O : pO} {j n0 : Nat} {Q : pQ} {pc : Nat} {L : pL} {S : List pv} {n : Nat} {M : pM} {a : Nat} (hm : mO j = 7) (hd : decode (mB j) pc = .ok (.getfield 28, 3)) : J O j n0 Q pc L (vr (a + 1) :: S) n M = (ob n a = 7 ∧ J O j n0 Q (pc + 3) L (vi (M a 7) :: S) n M) := J_get fe_11 (by rw [hm]) hd
theorem p_11 {O : pO} {j n0 : Nat} {Q : pQ} {pc : Nat} {L : pL} {S : List pv} {n : Nat} {M : pM} {a : Nat} {x : Int} (hm : mO j = 7) (hd : decode (mB j) pc = .ok (.putfield 28, 3)) : J O j n0 Q pc L (vi x :: vr (a + 1) :: S) n M = (ob n a = 7 ∧ J O j n0 Q (pc + 3) L S n (st M a 7 x)) := (J_put (C := True) (x := x) fe_11 (by rw [hm]) (Or.inl rfl) (fun y => by show (vi x = vi y) ↔ _; simp [eq_comm]) hd).trans (by simp only [true_and])
theorem fe_12 : (11, 321, 7, 7, 237, 1) ∈ fldL := by decide +kernel
theorem g_12 {O : pO} {j n0 : Nat} {Q : pQ} {pc : Nat} {L : pL} {S : List pv} {n : Nat} {M : pM} {a : Nat} (hm : mO j = 11) (hd : decode (mB j) pc = .ok (.getfield 321, 3)) : J O j n0 Q pc L (vr (a + 1) :: S) n M = (ob n a = 7 ∧ J O j n0 Q (pc + 3) L (vi (M a 7) :: S) n M) := J_get fe_12 (by rw [hm]) hd
theorem p_12 {O : pO} {j n0 : Nat} {Q : pQ} {pc : Nat} {L : pL} {S : List pv} {n : Nat} {M : pM} {a : Nat} {x : Int} (hm : mO j = 11) (hd : decode (mB j) pc = .ok (.putfield 321, 3)) : J O j n0 Q pc L (vi x :: vr (a + 1) :: S) n M = (ob n a = 7 ∧ J O j n0 Q (pc + 3) L S n (st M a 7 x)) := (J_put (C := True) (x := x) fe_12 (by rw [hm]) (Or.inl rfl) (fun y => by show (vi x = vi y) ↔ _; simp [eq_comm]) hd).trans (by simp only [true_and])
theorem fe_13 : (7, 31, 7, 8, 238, 0) ∈ fldL := by decide +kernel
theorem g_13 {O : pO} {j n0 : Nat} {Q : pQ} {pc : Nat} {L : pL} {S : List pv} {n : Nat} {M : pM} {a : Nat} (hm : mO j = 7) (hd : decode (mB j) pc = .ok (.getfield 31, 3)) : J O j n0 Q pc L (vr (a + 1) :: S) n M = (ob n a = 7 ∧ J O j n0 Q (pc + 3) L (vi (M a 8) :: S) n M) := J_get fe_13 (by rw [hm]) hd
theorem p_13 {O : pO} {j n0 : Nat} {Q : pQ} {pc : Nat} {L : pL} {S : List pv} {n : Nat} {M : pM} {a : Nat} {x : Int} (hm : mO j = 7) (hd : decode (mB j) pc = .ok (.putfield 31, 3)) : J O j n0 Q pc L (vi x :: vr (a + 1) :: S) n M = (ob n a = 7 ∧ J O j n0 Q (pc + 3) L S n (st M a 8 x)) := (J_put (C := True) (x := x) fe_13 (by rw [hm]) (Or.inl rfl) (fun y => by show (vi x = vi y) ↔ _; simp [eq_comm]) hd).trans (by simp only [true_and])
theorem fe_14 : (11, 324, 7, 8, 239, 1) ∈ fldL := by decide +kernel
theorem g_14 {O : pO} {j n0 : Nat} {Q : pQ} {pc : Nat} {L : pL} {S : List pv} {n : Nat} {M : pM} {a : Nat} (hm : mO j = 11) (hd : decode (mB j) pc = .ok (.getfield 324, 3)) : J O j n0 Q pc L (vr (a + 1) :: S) n M = (ob n a = 7 ∧ J O j n0 Q (pc + 3) L (vi (M a 8) :: S) n M) := J_get fe_14 (by rw [hm]) hd
theorem p_14 {O : pO} {j n0 : Nat} {Q : pQ} {pc : Nat} {L : pL} {S : List pv} {n : Nat} {M : pM} {a : Nat} {x : Int} (hm : mO j = 11) (hd : decode (mB j) pc = .ok (.putfield 324, 3)) : J O j n0 Q pc L (vi x :: vr (a + 1) :: S) n M = (ob n a = 7 ∧ J O j n0 Q (pc + 3) L S n (st M a 8 x)) := (J_put (C := True) (x := x) fe_14 (by rw [hm]) (Or.inl rfl) (fun y => by show (vi x = vi y) ↔ _; simp [eq_comm]) hd).trans (by simp only [true_and])
theorem fe_15 : (4, 9, 4, 0, 269, 0) ∈ fldL := by decide +kernel
theorem g_15 {O : pO} {j n0 : Nat} {Q : pQ} {pc : Nat} {L : pL} {S : List pv} {n : Nat} {M : pM} {a : Nat} (hm : mO j = 4) (hd : decode (mB j) pc = .ok (.getfield 9, 3)) : J O j n0 Q pc L (vr (a + 1) :: S) n M = (ob n a = 4 ∧ J O j n0 Q (pc + 3) L (vr (M a 0).toNat :: S) n M) := J_get fe_15 (by rw [hm]) hd
theorem p_15 {O : pO} {j n0 : Nat} {Q : pQ} {pc : Nat} {L : pL} {S : List pv} {n : Nat} {M : pM} {a b : Nat} (hm : mO j = 4) (hi : (mY j).name = "<init>") (hd : decode (mB j) pc = .ok (.putfield 9, 3)) : J O j n0 Q pc L (vr b :: vr (a + 1) :: S) n M = (ob n a = 4 ∧ J O j n0 Q (pc + 3) L S n (st M a 0 (b : Int))) := (J_put (C := True) (x := (b : Int)) fe_15 (by rw [hm]) (Or.inr ⟨hi, hm.symm, rfl⟩) (fun y => by show (∃ k : Nat, vr b = vr k ∧ y = (k : Int)) ↔ _; refine ⟨fun h => ?_, fun h => ⟨b, rfl, h.2⟩⟩; obtain ⟨k, h1, h2⟩ := h; cases h1; exact ⟨trivial, h2⟩) hd).trans (by simp only [true_and])
theorem fe_16 : (5, 94, 4, 0, 270, 1) ∈ fldL := by decide +kernel
theorem g_16 {O : pO} {j n0 : Nat} {Q : pQ} {pc : Nat} {L : pL} {S : List pv} {n : Nat} {M : pM} {a : Nat} (hm : mO j = 5) (hd : decode (mB j) pc = .ok (.getfield 94, 3)) : J O j n0 Q pc L (vr (a + 1) :: S) n M = (ob n a = 4 ∧ J O j n0 Q (pc + 3) L (vr (M a 0).toNat :: S) n M) := J_get fe_16 (by rw [hm]) hd
theorem fe_17 : (4, 43, 4, 1, 271, 0) ∈ fldL := by decide +kernel
theorem g_17 {O : pO} {j n0 : Nat} {Q : pQ} {pc : Nat} {L : pL} {S : List pv} {n : Nat} {M : pM} {a : Nat} (hm : mO j = 4) (hd : decode (mB j) pc = .ok (.getfield 43, 3)) : J O j n0 Q pc L (vr (a + 1) :: S) n M = (ob n a = 4 ∧ J O j n0 Q (pc + 3) L (vi (M a 1) :: S) n M) := J_get fe_17 (by rw [hm]) hd
theorem p_17 {O : pO} {j n0 : Nat} {Q : pQ} {pc : Nat} {L : pL} {S : List pv} {n : Nat} {M : pM} {a : Nat} {x : Int} (hm : mO j = 4) (hd : decode (mB j) pc = .ok (.putfield 43, 3)) : J O j n0 Q pc L (vi x :: vr (a + 1) :: S) n M = (ob n a = 4 ∧ J O j n0 Q (pc + 3) L S n (st M a 1 x)) := (J_put (C := True) (x := x) fe_17 (by rw [hm]) (Or.inl rfl) (fun y => by show (vi x = vi y) ↔ _; simp [eq_comm]) hd).trans (by simp only [true_and])
theorem fe_18 : (5, 80, 4, 1, 272, 1) ∈ fldL := by decide +kernel
theorem g_18 {O : pO} {j n0 : Nat} {Q : pQ} {pc : Nat} {L : pL} {S : List pv} {n : Nat} {M : pM} {a : Nat} (hm : mO j = 5) (hd : decode (mB j) pc = .ok (.getfield 80, 3)) : J O j n0 Q pc L (vr (a + 1) :: S) n M = (ob n a = 4 ∧ J O j n0 Q (pc + 3) L (vi (M a 1) :: S) n M) := J_get fe_18 (by rw [hm]) hd
theorem p_18 {O : pO} {j n0 : Nat} {Q : pQ} {pc : Nat} {L : pL} {S : List pv} {n : Nat} {M : pM} {a : Nat} {x : Int} (hm : mO j = 5) (hd : decode (mB j) pc = .ok (.putfield 80, 3)) : J O j n0 Q pc L (vi x :: vr (a + 1) :: S) n M = (ob n a = 4 ∧ J O j n0 Q (pc + 3) L S n (st M a 1 x)) := (J_put (C := True) (x := x) fe_18 (by rw [hm]) (Or.inl rfl) (fun y => by show (vi x = vi y) ↔ _; simp [eq_comm]) hd).trans (by simp only [true_and])
theorem fe_19 : (4, 15, 4, 2, 273, 0) ∈ fldL := by decide +kernel
theorem g_19 {O : pO} {j n0 : Nat} {Q : pQ} {pc : Nat} {L : pL} {S : List pv} {n : Nat} {M : pM} {a : Nat} (hm : mO j = 4) (hd : decode (mB j) pc = .ok (.getfield 15, 3)) : J O j n0 Q pc L (vr (a + 1) :: S) n M = (ob n a = 4 ∧ J O j n0 Q (pc + 3) L (vr (M a 2).toNat :: S) n M) := J_get fe_19 (by rw [hm]) hd
theorem p_19 {O : pO} {j n0 : Nat} {Q : pQ} {pc : Nat} {L : pL} {S : List pv} {n : Nat} {M : pM} {a b : Nat} (hm : mO j = 4) (hi : (mY j).name = "<init>") (hd : decode (mB j) pc = .ok (.putfield 15, 3)) : J O j n0 Q pc L (vr b :: vr (a + 1) :: S) n M = (ob n a = 4 ∧ J O j n0 Q (pc + 3) L S n (st M a 2 (b : Int))) := (J_put (C := True) (x := (b : Int)) fe_19 (by rw [hm]) (Or.inr ⟨hi, hm.symm, rfl⟩) (fun y => by show (∃ k : Nat, vr b = vr k ∧ y = (k : Int)) ↔ _; refine ⟨fun h => ?_, fun h => ⟨b, rfl, h.2⟩⟩; obtain ⟨k, h1, h2⟩ := h; cases h1; exact ⟨trivial, h2⟩) hd).trans (by simp only [true_and])
theorem fe_20 : (5, 101, 4, 2, 274, 1) ∈ fldL := by decide +kernel
theorem g_20 {O : pO} {j n0 : Nat} {Q : pQ} {pc : Nat} {L : pL} {S : List pv} {n : Nat} {M : pM} {a : Nat} (hm : mO j = 5) (hd : decode (mB j) pc = .ok (.getfield 101, 3)) : J O j n0 Q pc L (vr (a + 1) :: S) n M = (ob n a = 4 ∧ J O j n0 Q (pc + 3) L (vr (M a 2).toNat :: S) n M) := J_get fe_20 (by rw [hm]) hd
theorem fe_21 : (4, 47, 4, 3, 275, 0) ∈ fldL := by decide +kernel
theorem g_21 {O : pO} {j n0 : Nat} {Q : pQ} {pc : Nat} {L : pL} {S : List pv} {n : Nat} {M : pM} {a : Nat} (hm : mO j = 4) (hd : decode (mB j) pc = .ok (.getfield 47, 3)) : J O j n0 Q pc L (vr (a + 1) :: S) n M = (ob n a = 4 ∧ J O j n0 Q (pc + 3) L (vi (M a 3) :: S) n M) := J_get fe_21 (by rw [hm]) hd
theorem p_21 {O : pO} {j n0 : Nat} {Q : pQ} {pc : Nat} {L : pL} {S : List pv} {n : Nat} {M : pM} {a : Nat} {x : Int} (hm : mO j = 4) (hd : decode (mB j) pc = .ok (.putfield 47, 3)) : J O j n0 Q pc L (vi x :: vr (a + 1) :: S) n M = (ob n a = 4 ∧ J O j n0 Q (pc + 3) L S n (st M a 3 x)) := (J_put (C := True) (x := x) fe_21 (by rw [hm]) (Or.inl rfl) (fun y => by show (vi x = vi y) ↔ _; simp [eq_comm]) hd).trans (by simp only [true_and])
theorem fe_22 : (5, 98, 4, 3, 276, 1) ∈ fldL := by decide +kernel
theorem g_22 {O : pO} {j n0 : Nat} {Q : pQ} {pc : Nat} {L : pL} {S : List pv} {n : Nat} {M : pM} {a : Nat} (hm : mO j = 5) (hd : decode (mB j) pc = .ok (.getfield 98, 3)) : J O j n0 Q pc L (vr (a + 1) :: S) n M = (ob n a = 4 ∧ J O j n0 Q (pc + 3) L (vi (M a 3) :: S) n M) := J_get fe_22 (by rw [hm]) hd
theorem p_22 {O : pO} {j n0 : Nat} {Q : pQ} {pc : Nat} {L : pL} {S : List pv} {n : Nat} {M : pM} {a : Nat} {x : Int} (hm : mO j = 5) (hd : decode (mB j) pc = .ok (.putfield 98, 3)) : J O j n0 Q pc L (vi x :: vr (a + 1) :: S) n M = (ob n a = 4 ∧ J O j n0 Q (pc + 3) L S n (st M a 3 x)) := (J_put (C := True) (x := x) fe_22 (by rw [hm]) (Or.inl rfl) (fun y => by show (vi x = vi y) ↔ _; simp [eq_comm]) hd).trans (by simp only [true_and])
theorem fe_23 : (4, 18, 4, 4, 277, 0) ∈ fldL := by decide +kernel
theorem g_23 {O : pO} {j n0 : Nat} {Q : pQ} {pc : Nat} {L : pL} {S : List pv} {n : Nat} {M : pM} {a : Nat} (hm : mO j = 4) (hd : decode (mB j) pc = .ok (.getfield 18, 3)) : J O j n0 Q pc L (vr (a + 1) :: S) n M = (ob n a = 4 ∧ J O j n0 Q (pc + 3) L (vr (M a 4).toNat :: S) n M) := J_get fe_23 (by rw [hm]) hd
theorem p_23 {O : pO} {j n0 : Nat} {Q : pQ} {pc : Nat} {L : pL} {S : List pv} {n : Nat} {M : pM} {a b : Nat} (hm : mO j = 4) (hi : (mY j).name = "<init>") (hd : decode (mB j) pc = .ok (.putfield 18, 3)) : J O j n0 Q pc L (vr b :: vr (a + 1) :: S) n M = (ob n a = 4 ∧ J O j n0 Q (pc + 3) L S n (st M a 4 (b : Int))) := (J_put (C := True) (x := (b : Int)) fe_23 (by rw [hm]) (Or.inr ⟨hi, hm.symm, rfl⟩) (fun y => by show (∃ k : Nat, vr b = vr k ∧ y = (k : Int)) ↔ _; refine ⟨fun h => ?_, fun h => ⟨b, rfl, h.2⟩⟩; obtain ⟨k, h1, h2⟩ := h; cases h1; exact ⟨trivial, h2⟩) hd).trans (by simp only [true_and])
theorem fe_24 : (5, 104, 4, 4, 278, 1) ∈ fldL := by decide +kernel
theorem g_24 {O : pO} {j n0 : Nat} {Q : pQ} {pc : Nat} {L : pL} {S : List pv} {n : Nat} {M : pM} {a : Nat} (hm : mO j = 5) (hd : decode (mB j) pc = .ok (.getfield 104, 3)) : J O j n0 Q pc L (vr (a + 1) :: S) n M = (ob n a = 4 ∧ J O j n0 Q (pc + 3) L (vr (M a 4).toNat :: S) n M) := J_get fe_24 (by rw [hm]) hd
theorem fe_25 : (4, 21, 4, 5, 279, 0) ∈ fldL := by decide +kernel
theorem g_25 {O : pO} {j n0 : Nat} {Q : pQ} {pc : Nat} {L : pL} {S : List pv} {n : Nat} {M : pM} {a : Nat} (hm : mO j = 4) (hd : decode (mB j) pc = .ok (.getfield 21, 3)) : J O j n0 Q pc L (vr (a + 1) :: S) n M = (ob n a = 4 ∧ J O j n0 Q (pc + 3) L (vr (M a 5).toNat :: S) n M) := J_get fe_25 (by rw [hm]) hd
theorem p_25 {O : pO} {j n0 : Nat} {Q : pQ} {pc : Nat} {L : pL} {S : List pv} {n : Nat} {M : pM} {a b : Nat} (hm : mO j = 4) (hi : (mY j).name = "<init>") (hd : decode (mB j) pc = .ok (.putfield 21, 3)) : J O j n0 Q pc L (vr b :: vr (a + 1) :: S) n M = (ob n a = 4 ∧ J O j n0 Q (pc + 3) L S n (st M a 5 (b : Int))) := (J_put (C := True) (x := (b : Int)) fe_25 (by rw [hm]) (Or.inr ⟨hi, hm.symm, rfl⟩) (fun y => by show (∃ k : Nat, vr b = vr k ∧ y = (k : Int)) ↔ _; refine ⟨fun h => ?_, fun h => ⟨b, rfl, h.2⟩⟩; obtain ⟨k, h1, h2⟩ := h; cases h1; exact ⟨trivial, h2⟩) hd).trans (by simp only [true_and])
theorem fe_26 : (5, 114, 4, 5, 280, 1) ∈ fldL := by decide +kernel
theorem g_26 {O : pO} {j n0 : Nat} {Q : pQ} {pc : Nat} {L : pL} {S : List pv} {n : Nat} {M : pM} {a : Nat} (hm : mO j = 5) (hd : decode (mB j) pc = .ok (.getfield 114, 3)) : J O j n0 Q pc L (vr (a + 1) :: S) n M = (ob n a = 4 ∧ J O j n0 Q (pc + 3) L (vr (M a 5).toNat :: S) n M) := J_get fe_26 (by rw [hm]) hd
theorem fe_27 : (4, 24, 4, 6, 281, 0) ∈ fldL := by decide +kernel
theorem g_27 {O : pO} {j n0 : Nat} {Q : pQ} {pc : Nat} {L : pL} {S : List pv} {n : Nat} {M : pM} {a : Nat} (hm : mO j = 4) (hd : decode (mB j) pc = .ok (.getfield 24, 3)) : J O j n0 Q pc L (vr (a + 1) :: S) n M = (ob n a = 4 ∧ J O j n0 Q (pc + 3) L (vr (M a 6).toNat :: S) n M) := J_get fe_27 (by rw [hm]) hd
theorem p_27 {O : pO} {j n0 : Nat} {Q : pQ} {pc : Nat} {L : pL} {S : List pv} {n : Nat} {M : pM} {a b : Nat} (hm : mO j = 4) (hi : (mY j).name = "<init>") (hd : decode (mB j) pc = .ok (.putfield 24, 3)) : J O j n0 Q pc L (vr b :: vr (a + 1) :: S) n M = (ob n a = 4 ∧ J O j n0 Q (pc + 3) L S n (st M a 6 (b : Int))) := (J_put (C := True) (x := (b : Int)) fe_27 (by rw [hm]) (Or.inr ⟨hi, hm.symm, rfl⟩) (fun y => by show (∃ k : Nat, vr b = vr k ∧ y = (k : Int)) ↔ _; refine ⟨fun h => ?_, fun h => ⟨b, rfl, h.2⟩⟩; obtain ⟨k, h1, h2⟩ := h; cases h1; exact ⟨trivial, h2⟩) hd).trans (by simp only [true_and])
theorem fe_28 : (5, 130, 4, 6, 282, 1) ∈ fldL := by decide +kernel
theorem g_28 {O : pO} {j n0 : Nat} {Q : pQ} {pc : Nat} {L : pL} {S : List pv} {n : Nat} {M : pM} {a : Nat} (hm : mO j = 5) (hd : decode (mB j) pc = .ok (.getfield 130, 3)) : J O j n0 Q pc L (vr (a + 1) :: S) n M = (ob n a = 4 ∧ J O j n0 Q (pc + 3) L (vr (M a 6).toNat :: S) n M) := J_get fe_28 (by rw [hm]) hd
theorem fe_29 : (4, 50, 4, 7, 283, 0) ∈ fldL := by decide +kernel
theorem g_29 {O : pO} {j n0 : Nat} {Q : pQ} {pc : Nat} {L : pL} {S : List pv} {n : Nat} {M : pM} {a : Nat} (hm : mO j = 4) (hd : decode (mB j) pc = .ok (.getfield 50, 3)) : J O j n0 Q pc L (vr (a + 1) :: S) n M = (ob n a = 4 ∧ J O j n0 Q (pc + 3) L (vi (M a 7) :: S) n M) := J_get fe_29 (by rw [hm]) hd
theorem p_29 {O : pO} {j n0 : Nat} {Q : pQ} {pc : Nat} {L : pL} {S : List pv} {n : Nat} {M : pM} {a : Nat} {x : Int} (hm : mO j = 4) (hd : decode (mB j) pc = .ok (.putfield 50, 3)) : J O j n0 Q pc L (vi x :: vr (a + 1) :: S) n M = (ob n a = 4 ∧ J O j n0 Q (pc + 3) L S n (st M a 7 x)) := (J_put (C := True) (x := x) fe_29 (by rw [hm]) (Or.inl rfl) (fun y => by show (vi x = vi y) ↔ _; simp [eq_comm]) hd).trans (by simp only [true_and])
theorem fe_30 : (5, 120, 4, 7, 284, 1) ∈ fldL := by decide +kernel
theorem g_30 {O : pO} {j n0 : Nat} {Q : pQ} {pc : Nat} {L : pL} {S : List pv} {n : Nat} {M : pM} {a : Nat} (hm : mO j = 5) (hd : decode (mB j) pc = .ok (.getfield 120, 3)) : J O j n0 Q pc L (vr (a + 1) :: S) n M = (ob n a = 4 ∧ J O j n0 Q (pc + 3) L (vi (M a 7) :: S) n M) := J_get fe_30 (by rw [hm]) hd
theorem p_30 {O : pO} {j n0 : Nat} {Q : pQ} {pc : Nat} {L : pL} {S : List pv} {n : Nat} {M : pM} {a : Nat} {x : Int} (hm : mO j = 5) (hd : decode (mB j) pc = .ok (.putfield 120, 3)) : J O j n0 Q pc L (vi x :: vr (a + 1) :: S) n M = (ob n a = 4 ∧ J O j n0 Q (pc + 3) L S n (st M a 7 x)) := (J_put (C := True) (x := x) fe_30 (by rw [hm]) (Or.inl rfl) (fun y => by show (vi x = vi y) ↔ _; simp [eq_comm]) hd).trans (by simp only [true_and])
theorem fe_31 : (8, 95, 4, 7, 285, 1) ∈ fldL := by decide +kernel
theorem g_31 {O : pO} {j n0 : Nat} {Q : pQ} {pc : Nat} {L : pL} {S : List pv} {n : Nat} {M : pM} {a : Nat} (hm : mO j = 8) (hd : decode (mB j) pc = .ok (.getfield 95, 3)) : J O j n0 Q pc L (vr (a + 1) :: S) n M = (ob n a = 4 ∧ J O j n0 Q (pc + 3) L (vi (M a 7) :: S) n M) := J_get fe_31 (by rw [hm]) hd
theorem p_31 {O : pO} {j n0 : Nat} {Q : pQ} {pc : Nat} {L : pL} {S : List pv} {n : Nat} {M : pM} {a : Nat} {x : Int} (hm : mO j = 8) (hd : decode (mB j) pc = .ok (.putfield 95, 3)) : J O j n0 Q pc L (vi x :: vr (a + 1) :: S) n M = (ob n a = 4 ∧ J O j n0 Q (pc + 3) L S n (st M a 7 x)) := (J_put (C := True) (x := x) fe_31 (by rw [hm]) (Or.inl rfl) (fun y => by show (vi x = vi y) ↔ _; simp [eq_comm]) hd).trans (by simp only [true_and])
theorem fe_32 : (11, 291, 4, 7, 286, 1) ∈ fldL := by decide +kernel
theorem g_32 {O : pO} {j n0 : Nat} {Q : pQ} {pc : Nat} {L : pL} {S : List pv} {n : Nat} {M : pM} {a : Nat} (hm : mO j = 11) (hd : decode (mB j) pc = .ok (.getfield 291, 3)) : J O j n0 Q pc L (vr (a + 1) :: S) n M = (ob n a = 4 ∧ J O j n0 Q (pc + 3) L (vi (M a 7) :: S) n M) := J_get fe_32 (by rw [hm]) hd
theorem p_32 {O : pO} {j n0 : Nat} {Q : pQ} {pc : Nat} {L : pL} {S : List pv} {n : Nat} {M : pM} {a : Nat} {x : Int} (hm : mO j = 11) (hd : decode (mB j) pc = .ok (.putfield 291, 3)) : J O j n0 Q pc L (vi x :: vr (a + 1) :: S) n M = (ob n a = 4 ∧ J O j n0 Q (pc + 3) L S n (st M a 7 x)) := (J_put (C := True) (x := x) fe_32 (by rw [hm]) (Or.inl rfl) (fun y => by show (vi x = vi y) ↔ _; simp [eq_comm]) hd).trans (by simp only [true_and])
theorem fe_33 : (4, 53, 4, 8, 287, 0) ∈ fldL := by decide +kernel
theorem g_33 {O : pO} {j n0 : Nat} {Q : pQ} {pc : Nat} {L : pL} {S : List pv} {n : Nat} {M : pM} {a : Nat} (hm : mO j = 4) (hd : decode (mB j) pc = .ok (.getfield 53, 3)) : J O j n0 Q pc L (vr (a + 1) :: S) n M = (ob n a = 4 ∧ J O j n0 Q (pc + 3) L (vl (M a 8) :: S) n M) := J_get fe_33 (by rw [hm]) hd
theorem p_33 {O : pO} {j n0 : Nat} {Q : pQ} {pc : Nat} {L : pL} {S : List pv} {n : Nat} {M : pM} {a : Nat} {x : Int} (hm : mO j = 4) (hd : decode (mB j) pc = .ok (.putfield 53, 3)) : J O j n0 Q pc L (vl x :: vr (a + 1) :: S) n M = (ob n a = 4 ∧ J O j n0 Q (pc + 3) L S n (st M a 8 x)) := (J_put (C := True) (x := x) fe_33 (by rw [hm]) (Or.inl rfl) (fun y => by show (vl x = vl y) ↔ _; simp [eq_comm]) hd).trans (by simp only [true_and])
theorem fe_34 : (1, 92, 4, 8, 288, 1) ∈ fldL := by decide +kernel
theorem g_34 {O : pO} {j n0 : Nat} {Q : pQ} {pc : Nat} {L : pL} {S : List pv} {n : Nat} {M : pM} {a : Nat} (hm : mO j = 1) (hd : decode (mB j) pc = .ok (.getfield 92, 3)) : J O j n0 Q pc L (vr (a + 1) :: S) n M = (ob n a = 4 ∧ J O j n0 Q (pc + 3) L (vl (M a 8) :: S) n M) := J_get fe_34 (by rw [hm]) hd
theorem p_34 {O : pO} {j n0 : Nat} {Q : pQ} {pc : Nat} {L : pL} {S : List pv} {n : Nat} {M : pM} {a : Nat} {x : Int} (hm : mO j = 1) (hd : decode (mB j) pc = .ok (.putfield 92, 3)) : J O j n0 Q pc L (vl x :: vr (a + 1) :: S) n M = (ob n a = 4 ∧ J O j n0 Q (pc + 3) L S n (st M a 8 x)) := (J_put (C := True) (x := x) fe_34 (by rw [hm]) (Or.inl rfl) (fun y => by show (vl x = vl y) ↔ _; simp [eq_comm]) hd).trans (by simp only [true_and])
theorem fe_35 : (5, 133, 4, 8, 289, 1) ∈ fldL := by decide +kernel
theorem g_35 {O : pO} {j n0 : Nat} {Q : pQ} {pc : Nat} {L : pL} {S : List pv} {n : Nat} {M : pM} {a : Nat} (hm : mO j = 5) (hd : decode (mB j) pc = .ok (.getfield 133, 3)) : J O j n0 Q pc L (vr (a + 1) :: S) n M = (ob n a = 4 ∧ J O j n0 Q (pc + 3) L (vl (M a 8) :: S) n M) := J_get fe_35 (by rw [hm]) hd
theorem p_35 {O : pO} {j n0 : Nat} {Q : pQ} {pc : Nat} {L : pL} {S : List pv} {n : Nat} {M : pM} {a : Nat} {x : Int} (hm : mO j = 5) (hd : decode (mB j) pc = .ok (.putfield 133, 3)) : J O j n0 Q pc L (vl x :: vr (a + 1) :: S) n M = (ob n a = 4 ∧ J O j n0 Q (pc + 3) L S n (st M a 8 x)) := (J_put (C := True) (x := x) fe_35 (by rw [hm]) (Or.inl rfl) (fun y => by show (vl x = vl y) ↔ _; simp [eq_comm]) hd).trans (by simp only [true_and])
theorem fe_36 : (11, 294, 4, 8, 290, 1) ∈ fldL := by decide +kernel
theorem g_36 {O : pO} {j n0 : Nat} {Q : pQ} {pc : Nat} {L : pL} {S : List pv} {n : Nat} {M : pM} {a : Nat} (hm : mO j = 11) (hd : decode (mB j) pc = .ok (.getfield 294, 3)) : J O j n0 Q pc L (vr (a + 1) :: S) n M = (ob n a = 4 ∧ J O j n0 Q (pc + 3) L (vl (M a 8) :: S) n M) := J_get fe_36 (by rw [hm]) hd
theorem p_36 {O : pO} {j n0 : Nat} {Q : pQ} {pc : Nat} {L : pL} {S : List pv} {n : Nat} {M : pM} {a : Nat} {x : Int} (hm : mO j = 11) (hd : decode (mB j) pc = .ok (.putfield 294, 3)) : J O j n0 Q pc L (vl x :: vr (a + 1) :: S) n M = (ob n a = 4 ∧ J O j n0 Q (pc + 3) L S n (st M a 8 x)) := (J_put (C := True) (x := x) fe_36 (by rw [hm]) (Or.inl rfl) (fun y => by show (vl x = vl y) ↔ _; simp [eq_comm]) hd).trans (by simp only [true_and])
theorem fe_37 : (4, 27, 4, 9, 291, 0) ∈ fldL := by decide +kernel
theorem g_37 {O : pO} {j n0 : Nat} {Q : pQ} {pc : Nat} {L : pL} {S : List pv} {n : Nat} {M : pM} {a : Nat} (hm : mO j = 4) (hd : decode (mB j) pc = .ok (.getfield 27, 3)) : J O j n0 Q pc L (vr (a + 1) :: S) n M = (ob n a = 4 ∧ J O j n0 Q (pc + 3) L (vr (M a 9).toNat :: S) n M) := J_get fe_37 (by rw [hm]) hd
theorem p_37 {O : pO} {j n0 : Nat} {Q : pQ} {pc : Nat} {L : pL} {S : List pv} {n : Nat} {M : pM} {a b : Nat} (hm : mO j = 4) (hi : (mY j).name = "<init>") (hd : decode (mB j) pc = .ok (.putfield 27, 3)) : J O j n0 Q pc L (vr b :: vr (a + 1) :: S) n M = (ob n a = 4 ∧ J O j n0 Q (pc + 3) L S n (st M a 9 (b : Int))) := (J_put (C := True) (x := (b : Int)) fe_37 (by rw [hm]) (Or.inr ⟨hi, hm.symm, rfl⟩) (fun y => by show (∃ k : Nat, vr b = vr k ∧ y = (k : Int)) ↔ _; refine ⟨fun h => ?_, fun h => ⟨b, rfl, h.2⟩⟩; obtain ⟨k, h1, h2⟩ := h; cases h1; exact ⟨trivial, h2⟩) hd).trans (by simp only [true_and])
theorem fe_38 : (10, 47, 4, 9, 292, 1) ∈ fldL := by decide +kernel
theorem g_38 {O : pO} {j n0 : Nat} {Q : pQ} {pc : Nat} {L : pL} {S : List pv} {n : Nat} {M : pM} {a : Nat} (hm : mO j = 10) (hd : decode (mB j) pc = .ok (.getfield 47, 3)) : J O j n0 Q pc L (vr (a + 1) :: S) n M = (ob n a = 4 ∧ J O j n0 Q (pc + 3) L (vr (M a 9).toNat :: S) n M) := J_get fe_38 (by rw [hm]) hd
theorem fe_39 : (5, 140, 4, 9, 293, 1) ∈ fldL := by decide +kernel
theorem g_39 {O : pO} {j n0 : Nat} {Q : pQ} {pc : Nat} {L : pL} {S : List pv} {n : Nat} {M : pM} {a : Nat} (hm : mO j = 5) (hd : decode (mB j) pc = .ok (.getfield 140, 3)) : J O j n0 Q pc L (vr (a + 1) :: S) n M = (ob n a = 4 ∧ J O j n0 Q (pc + 3) L (vr (M a 9).toNat :: S) n M) := J_get fe_39 (by rw [hm]) hd
theorem fe_40 : (4, 57, 4, 10, 294, 0) ∈ fldL := by decide +kernel
theorem g_40 {O : pO} {j n0 : Nat} {Q : pQ} {pc : Nat} {L : pL} {S : List pv} {n : Nat} {M : pM} {a : Nat} (hm : mO j = 4) (hd : decode (mB j) pc = .ok (.getfield 57, 3)) : J O j n0 Q pc L (vr (a + 1) :: S) n M = (ob n a = 4 ∧ J O j n0 Q (pc + 3) L (vi (M a 10) :: S) n M) := J_get fe_40 (by rw [hm]) hd
theorem p_40 {O : pO} {j n0 : Nat} {Q : pQ} {pc : Nat} {L : pL} {S : List pv} {n : Nat} {M : pM} {a : Nat} {x : Int} (hm : mO j = 4) (hd : decode (mB j) pc = .ok (.putfield 57, 3)) : J O j n0 Q pc L (vi x :: vr (a + 1) :: S) n M = (ob n a = 4 ∧ J O j n0 Q (pc + 3) L S n (st M a 10 x)) := (J_put (C := True) (x := x) fe_40 (by rw [hm]) (Or.inl rfl) (fun y => by show (vi x = vi y) ↔ _; simp [eq_comm]) hd).trans (by simp only [true_and])
theorem fe_41 : (10, 42, 4, 10, 295, 1) ∈ fldL := by decide +kernel
theorem g_41 {O : pO} {j n0 : Nat} {Q : pQ} {pc : Nat} {L : pL} {S : List pv} {n : Nat} {M : pM} {a : Nat} (hm : mO j = 10) (hd : decode (mB j) pc = .ok (.getfield 42, 3)) : J O j n0 Q pc L (vr (a + 1) :: S) n M = (ob n a = 4 ∧ J O j n0 Q (pc + 3) L (vi (M a 10) :: S) n M) := J_get fe_41 (by rw [hm]) hd
theorem p_41 {O : pO} {j n0 : Nat} {Q : pQ} {pc : Nat} {L : pL} {S : List pv} {n : Nat} {M : pM} {a : Nat} {x : Int} (hm : mO j = 10) (hd : decode (mB j) pc = .ok (.putfield 42, 3)) : J O j n0 Q pc L (vi x :: vr (a + 1) :: S) n M = (ob n a = 4 ∧ J O j n0 Q (pc + 3) L S n (st M a 10 x)) := (J_put (C := True) (x := x) fe_41 (by rw [hm]) (Or.inl rfl) (fun y => by show (vi x = vi y) ↔ _; simp [eq_comm]) hd).trans (by simp only [true_and])
theorem fe_42 : (5, 137, 4, 10, 296, 1) ∈ fldL := by decide +kernel
theorem g_42 {O : pO} {j n0 : Nat} {Q : pQ} {pc : Nat} {L : pL} {S : List pv} {n : Nat} {M : pM} {a : Nat} (hm : mO j = 5) (hd : decode (mB j) pc = .ok (.getfield 137, 3)) : J O j n0 Q pc L (vr (a + 1) :: S) n M = (ob n a = 4 ∧ J O j n0 Q (pc + 3) L (vi (M a 10) :: S) n M) := J_get fe_42 (by rw [hm]) hd
theorem p_42 {O : pO} {j n0 : Nat} {Q : pQ} {pc : Nat} {L : pL} {S : List pv} {n : Nat} {M : pM} {a : Nat} {x : Int} (hm : mO j = 5) (hd : decode (mB j) pc = .ok (.putfield 137, 3)) : J O j n0 Q pc L (vi x :: vr (a + 1) :: S) n M = (ob n a = 4 ∧ J O j n0 Q (pc + 3) L S n (st M a 10 x)) := (J_put (C := True) (x := x) fe_42 (by rw [hm]) (Or.inl rfl) (fun y => by show (vi x = vi y) ↔ _; simp [eq_comm]) hd).trans (by simp only [true_and])
theorem fe_43 : (11, 304, 4, 10, 297, 1) ∈ fldL := by decide +kernel
theorem g_43 {O : pO} {j n0 : Nat} {Q : pQ} {pc : Nat} {L : pL} {S : List pv} {n : Nat} {M : pM} {a : Nat} (hm : mO j = 11) (hd : decode (mB j) pc = .ok (.getfield 304, 3)) : J O j n0 Q pc L (vr (a + 1) :: S) n M = (ob n a = 4 ∧ J O j n0 Q (pc + 3) L (vi (M a 10) :: S) n M) := J_get fe_43 (by rw [hm]) hd
theorem p_43 {O : pO} {j n0 : Nat} {Q : pQ} {pc : Nat} {L : pL} {S : List pv} {n : Nat} {M : pM} {a : Nat} {x : Int} (hm : mO j = 11) (hd : decode (mB j) pc = .ok (.putfield 304, 3)) : J O j n0 Q pc L (vi x :: vr (a + 1) :: S) n M = (ob n a = 4 ∧ J O j n0 Q (pc + 3) L S n (st M a 10 x)) := (J_put (C := True) (x := x) fe_43 (by rw [hm]) (Or.inl rfl) (fun y => by show (vi x = vi y) ↔ _; simp [eq_comm]) hd).trans (by simp only [true_and])
theorem fe_44 : (4, 30, 4, 11, 298, 0) ∈ fldL := by decide +kernel
theorem g_44 {O : pO} {j n0 : Nat} {Q : pQ} {pc : Nat} {L : pL} {S : List pv} {n : Nat} {M : pM} {a : Nat} (hm : mO j = 4) (hd : decode (mB j) pc = .ok (.getfield 30, 3)) : J O j n0 Q pc L (vr (a + 1) :: S) n M = (ob n a = 4 ∧ J O j n0 Q (pc + 3) L (vr (M a 11).toNat :: S) n M) := J_get fe_44 (by rw [hm]) hd
theorem p_44 {O : pO} {j n0 : Nat} {Q : pQ} {pc : Nat} {L : pL} {S : List pv} {n : Nat} {M : pM} {a b : Nat} (hm : mO j = 4) (hi : (mY j).name = "<init>") (hd : decode (mB j) pc = .ok (.putfield 30, 3)) : J O j n0 Q pc L (vr b :: vr (a + 1) :: S) n M = (ob n a = 4 ∧ J O j n0 Q (pc + 3) L S n (st M a 11 (b : Int))) := (J_put (C := True) (x := (b : Int)) fe_44 (by rw [hm]) (Or.inr ⟨hi, hm.symm, rfl⟩) (fun y => by show (∃ k : Nat, vr b = vr k ∧ y = (k : Int)) ↔ _; refine ⟨fun h => ?_, fun h => ⟨b, rfl, h.2⟩⟩; obtain ⟨k, h1, h2⟩ := h; cases h1; exact ⟨trivial, h2⟩) hd).trans (by simp only [true_and])
theorem fe_45 : (5, 160, 4, 11, 299, 1) ∈ fldL := by decide +kernel
theorem g_45 {O : pO} {j n0 : Nat} {Q : pQ} {pc : Nat} {L : pL} {S : List pv} {n : Nat} {M : pM} {a : Nat} (hm : mO j = 5) (hd : decode (mB j) pc = .ok (.getfield 160, 3)) : J O j n0 Q pc L (vr (a + 1) :: S) n M = (ob n a = 4 ∧ J O j n0 Q (pc + 3) L (vr (M a 11).toNat :: S) n M) := J_get fe_45 (by rw [hm]) hd
theorem fe_46 : (4, 34, 4, 12, 300, 0) ∈ fldL := by decide +kernel
theorem g_46 {O : pO} {j n0 : Nat} {Q : pQ} {pc : Nat} {L : pL} {S : List pv} {n : Nat} {M : pM} {a : Nat} (hm : mO j = 4) (hd : decode (mB j) pc = .ok (.getfield 34, 3)) : J O j n0 Q pc L (vr (a + 1) :: S) n M = (ob n a = 4 ∧ J O j n0 Q (pc + 3) L (vr (M a 12).toNat :: S) n M) := J_get fe_46 (by rw [hm]) hd
theorem p_46 {O : pO} {j n0 : Nat} {Q : pQ} {pc : Nat} {L : pL} {S : List pv} {n : Nat} {M : pM} {a b : Nat} (hm : mO j = 4) (hi : (mY j).name = "<init>") (hd : decode (mB j) pc = .ok (.putfield 34, 3)) : J O j n0 Q pc L (vr b :: vr (a + 1) :: S) n M = (ob n a = 4 ∧ J O j n0 Q (pc + 3) L S n (st M a 12 (b : Int))) := (J_put (C := True) (x := (b : Int)) fe_46 (by rw [hm]) (Or.inr ⟨hi, hm.symm, rfl⟩) (fun y => by show (∃ k : Nat, vr b = vr k ∧ y = (k : Int)) ↔ _; refine ⟨fun h => ?_, fun h => ⟨b, rfl, h.2⟩⟩; obtain ⟨k, h1, h2⟩ := h; cases h1; exact ⟨trivial, h2⟩) hd).trans (by simp only [true_and])
theorem fe_47 : (5, 157, 4, 12, 301, 1) ∈ fldL := by decide +kernel
theorem g_47 {O : pO} {j n0 : Nat} {Q : pQ} {pc : Nat} {L : pL} {S : List pv} {n : Nat} {M : pM} {a : Nat} (hm : mO j = 5) (hd : decode (mB j) pc = .ok (.getfield 157, 3)) : J O j n0 Q pc L (vr (a + 1) :: S) n M = (ob n a = 4 ∧ J O j n0 Q (pc + 3) L (vr (M a 12).toNat :: S) n M) := J_get fe_47 (by rw [hm]) hd
theorem fe_48 : (4, 60, 4, 13, 302, 0) ∈ fldL := by decide +kernel
theorem g_48 {O : pO} {j n0 : Nat} {Q : pQ} {pc : Nat} {L : pL} {S : List pv} {n : Nat} {M : pM} {a : Nat} (hm : mO j = 4) (hd : decode (mB j) pc = .ok (.getfield 60, 3)) : J O j n0 Q pc L (vr (a + 1) :: S) n M = (ob n a = 4 ∧ J O j n0 Q (pc + 3) L (vi (M a 13) :: S) n M) := J_get fe_48 (by rw [hm]) hd
theorem p_48 {O : pO} {j n0 : Nat} {Q : pQ} {pc : Nat} {L : pL} {S : List pv} {n : Nat} {M : pM} {a : Nat} {x : Int} (hm : mO j = 4) (hd : decode (mB j) pc = .ok (.putfield 60, 3)) : J O j n0 Q pc L (vi x :: vr (a + 1) :: S) n M = (ob n a = 4 ∧ J O j n0 Q (pc + 3) L S n (st M a 13 x)) := (J_put (C := True) (x := x) fe_48 (by rw [hm]) (Or.inl rfl) (fun y => by show (vi x = vi y) ↔ _; simp [eq_comm]) hd).trans (by simp only [true_and])
theorem fe_49 : (5, 143, 4, 13, 303, 1) ∈ fldL := by decide +kernel
theorem g_49 {O : pO} {j n0 : Nat} {Q : pQ} {pc : Nat} {L : pL} {S : List pv} {n : Nat} {M : pM} {a : Nat} (hm : mO j = 5) (hd : decode (mB j) pc = .ok (.getfield 143, 3)) : J O j n0 Q pc L (vr (a + 1) :: S) n M = (ob n a = 4 ∧ J O j n0 Q (pc + 3) L (vi (M a 13) :: S) n M) := J_get fe_49 (by rw [hm]) hd
theorem p_49 {O : pO} {j n0 : Nat} {Q : pQ} {pc : Nat} {L : pL} {S : List pv} {n : Nat} {M : pM} {a : Nat} {x : Int} (hm : mO j = 5) (hd : decode (mB j) pc = .ok (.putfield 143, 3)) : J O j n0 Q pc L (vi x :: vr (a + 1) :: S) n M = (ob n a = 4 ∧ J O j n0 Q (pc + 3) L S n (st M a 13 x)) := (J_put (C := True) (x := x) fe_49 (by rw [hm]) (Or.inl rfl) (fun y => by show (vi x = vi y) ↔ _; simp [eq_comm]) hd).trans (by simp only [true_and])
theorem fe_50 : (11, 307, 4, 13, 304, 1) ∈ fldL := by decide +kernel
theorem g_50 {O : pO} {j n0 : Nat} {Q : pQ} {pc : Nat} {L : pL} {S : List pv} {n : Nat} {M : pM} {a : Nat} (hm : mO j = 11) (hd : decode (mB j) pc = .ok (.getfield 307, 3)) : J O j n0 Q pc L (vr (a + 1) :: S) n M = (ob n a = 4 ∧ J O j n0 Q (pc + 3) L (vi (M a 13) :: S) n M) := J_get fe_50 (by rw [hm]) hd
theorem p_50 {O : pO} {j n0 : Nat} {Q : pQ} {pc : Nat} {L : pL} {S : List pv} {n : Nat} {M : pM} {a : Nat} {x : Int} (hm : mO j = 11) (hd : decode (mB j) pc = .ok (.putfield 307, 3)) : J O j n0 Q pc L (vi x :: vr (a + 1) :: S) n M = (ob n a = 4 ∧ J O j n0 Q (pc + 3) L S n (st M a 13 x)) := (J_put (C := True) (x := x) fe_50 (by rw [hm]) (Or.inl rfl) (fun y => by show (vi x = vi y) ↔ _; simp [eq_comm]) hd).trans (by simp only [true_and])
theorem fe_51 : (4, 63, 4, 14, 305, 0) ∈ fldL := by decide +kernel
theorem g_51 {O : pO} {j n0 : Nat} {Q : pQ} {pc : Nat} {L : pL} {S : List pv} {n : Nat} {M : pM} {a : Nat} (hm : mO j = 4) (hd : decode (mB j) pc = .ok (.getfield 63, 3)) : J O j n0 Q pc L (vr (a + 1) :: S) n M = (ob n a = 4 ∧ J O j n0 Q (pc + 3) L (vi (M a 14) :: S) n M) := J_get fe_51 (by rw [hm]) hd
theorem p_51 {O : pO} {j n0 : Nat} {Q : pQ} {pc : Nat} {L : pL} {S : List pv} {n : Nat} {M : pM} {a : Nat} {x : Int} (hm : mO j = 4) (hd : decode (mB j) pc = .ok (.putfield 63, 3)) : J O j n0 Q pc L (vi x :: vr (a + 1) :: S) n M = (ob n a = 4 ∧ J O j n0 Q (pc + 3) L S n (st M a 14 x)) := (J_put (C := True) (x := x) fe_51 (by rw [hm]) (Or.inl rfl) (fun y => by show (vi x = vi y) ↔ _; simp [eq_comm]) hd).trans (by simp only [true_and])
theorem fe_52 : (5, 70, 4, 14, 306, 1) ∈ fldL := by decide +kernel
theorem g_52 {O : pO} {j n0 : Nat} {Q : pQ} {pc : Nat} {L : pL} {S : List pv} {n : Nat} {M : pM} {a : Nat} (hm : mO j = 5) (hd : decode (mB j) pc = .ok (.getfield 70, 3)) : J O j n0 Q pc L (vr (a + 1) :: S) n M = (ob n a = 4 ∧ J O j n0 Q (pc + 3) L (vi (M a 14) :: S) n M) := J_get fe_52 (by rw [hm]) hd
theorem p_52 {O : pO} {j n0 : Nat} {Q : pQ} {pc : Nat} {L : pL} {S : List pv} {n : Nat} {M : pM} {a : Nat} {x : Int} (hm : mO j = 5) (hd : decode (mB j) pc = .ok (.putfield 70, 3)) : J O j n0 Q pc L (vi x :: vr (a + 1) :: S) n M = (ob n a = 4 ∧ J O j n0 Q (pc + 3) L S n (st M a 14 x)) := (J_put (C := True) (x := x) fe_52 (by rw [hm]) (Or.inl rfl) (fun y => by show (vi x = vi y) ↔ _; simp [eq_comm]) hd).trans (by simp only [true_and])
theorem fe_53 : (11, 128, 4, 14, 307, 1) ∈ fldL := by decide +kernel
theorem g_53 {O : pO} {j n0 : Nat} {Q : pQ} {pc : Nat} {L : pL} {S : List pv} {n : Nat} {M : pM} {a : Nat} (hm : mO j = 11) (hd : decode (mB j) pc = .ok (.getfield 128, 3)) : J O j n0 Q pc L (vr (a + 1) :: S) n M = (ob n a = 4 ∧ J O j n0 Q (pc + 3) L (vi (M a 14) :: S) n M) := J_get fe_53 (by rw [hm]) hd
theorem p_53 {O : pO} {j n0 : Nat} {Q : pQ} {pc : Nat} {L : pL} {S : List pv} {n : Nat} {M : pM} {a : Nat} {x : Int} (hm : mO j = 11) (hd : decode (mB j) pc = .ok (.putfield 128, 3)) : J O j n0 Q pc L (vi x :: vr (a + 1) :: S) n M = (ob n a = 4 ∧ J O j n0 Q (pc + 3) L S n (st M a 14 x)) := (J_put (C := True) (x := x) fe_53 (by rw [hm]) (Or.inl rfl) (fun y => by show (vi x = vi y) ↔ _; simp [eq_comm]) hd).trans (by simp only [true_and])
theorem fe_54 : (5, 9, 5, 0, 346, 0) ∈ fldL := by decide +kernel
theorem g_54 {O : pO} {j n0 : Nat} {Q : pQ} {pc : Nat} {L : pL} {S : List pv} {n : Nat} {M : pM} {a : Nat} (hm : mO j = 5) (hd : decode (mB j) pc = .ok (.getfield 9, 3)) : J O j n0 Q pc L (vr (a + 1) :: S) n M = (ob n a = 5 ∧ J O j n0 Q (pc + 3) L (vr (M a 0).toNat :: S) n M) := J_get fe_54 (by rw [hm]) hd
theorem p_54 {O : pO} {j n0 : Nat} {Q : pQ} {pc : Nat} {L : pL} {S : List pv} {n : Nat} {M : pM} {a b : Nat} (hm : mO j = 5) (hi : (mY j).name = "<init>") (hd : decode (mB j) pc = .ok (.putfield 9, 3)) : J O j n0 Q pc L (vr b :: vr (a + 1) :: S) n M = (ob n a = 5 ∧ J O j n0 Q (pc + 3) L S n (st M a 0 (b : Int))) := (J_put (C := True) (x := (b : Int)) fe_54 (by rw [hm]) (Or.inr ⟨hi, hm.symm, rfl⟩) (fun y => by show (∃ k : Nat, vr b = vr k ∧ y = (k : Int)) ↔ _; refine ⟨fun h => ?_, fun h => ⟨b, rfl, h.2⟩⟩; obtain ⟨k, h1, h2⟩ := h; cases h1; exact ⟨trivial, h2⟩) hd).trans (by simp only [true_and])
theorem fe_55 : (5, 15, 5, 1, 347, 0) ∈ fldL := by decide +kernel
theorem g_55 {O : pO} {j n0 : Nat} {Q : pQ} {pc : Nat} {L : pL} {S : List pv} {n : Nat} {M : pM} {a : Nat} (hm : mO j = 5) (hd : decode (mB j) pc = .ok (.getfield 15, 3)) : J O j n0 Q pc L (vr (a + 1) :: S) n M = (ob n a = 5 ∧ J O j n0 Q (pc + 3) L (vr (M a 1).toNat :: S) n M) := J_get fe_55 (by rw [hm]) hd
theorem p_55 {O : pO} {j n0 : Nat} {Q : pQ} {pc : Nat} {L : pL} {S : List pv} {n : Nat} {M : pM} {a b : Nat} (hm : mO j = 5) (hd : decode (mB j) pc = .ok (.putfield 15, 3)) : J O j n0 Q pc L (vr b :: vr (a + 1) :: S) n M = (ob n a = 5 ∧ J O j n0 Q (pc + 3) L S n (st M a 1 (b : Int))) := (J_put (C := True) (x := (b : Int)) fe_55 (by rw [hm]) (Or.inl rfl) (fun y => by show (∃ k : Nat, vr b = vr k ∧ y = (k : Int)) ↔ _; refine ⟨fun h => ?_, fun h => ⟨b, rfl, h.2⟩⟩; obtain ⟨k, h1, h2⟩ := h; cases h1; exact ⟨trivial, h2⟩) hd).trans (by simp only [true_and])
theorem fe_56 : (3, 21, 3, 0, 359, 0) ∈ fldL := by decide +kernel
theorem g_56 {O : pO} {j n0 : Nat} {Q : pQ} {pc : Nat} {L : pL} {S : List pv} {n : Nat} {M : pM} {a : Nat} (hm : mO j = 3) (hd : decode (mB j) pc = .ok (.getfield 21, 3)) : J O j n0 Q pc L (vr (a + 1) :: S) n M = (ob n a = 3 ∧ J O j n0 Q (pc + 3) L (vr (M a 0).toNat :: S) n M) := J_get fe_56 (by rw [hm]) hd
theorem p_56 {O : pO} {j n0 : Nat} {Q : pQ} {pc : Nat} {L : pL} {S : List pv} {n : Nat} {M : pM} {a b : Nat} (hm : mO j = 3) (hi : (mY j).name = "<init>") (hd : decode (mB j) pc = .ok (.putfield 21, 3)) : J O j n0 Q pc L (vr b :: vr (a + 1) :: S) n M = (ob n a = 3 ∧ J O j n0 Q (pc + 3) L S n (st M a 0 (b : Int))) := (J_put (C := True) (x := (b : Int)) fe_56 (by rw [hm]) (Or.inr ⟨hi, hm.symm, rfl⟩) (fun y => by show (∃ k : Nat, vr b = vr k ∧ y = (k : Int)) ↔ _; refine ⟨fun h => ?_, fun h => ⟨b, rfl, h.2⟩⟩; obtain ⟨k, h1, h2⟩ := h; cases h1; exact ⟨trivial, h2⟩) hd).trans (by simp only [true_and])
theorem fe_57 : (3, 11, 3, 1, 360, 0) ∈ fldL := by decide +kernel
theorem g_57 {O : pO} {j n0 : Nat} {Q : pQ} {pc : Nat} {L : pL} {S : List pv} {n : Nat} {M : pM} {a : Nat} (hm : mO j = 3) (hd : decode (mB j) pc = .ok (.getfield 11, 3)) : J O j n0 Q pc L (vr (a + 1) :: S) n M = (ob n a = 3 ∧ J O j n0 Q (pc + 3) L (vr (M a 1).toNat :: S) n M) := J_get fe_57 (by rw [hm]) hd
theorem p_57 {O : pO} {j n0 : Nat} {Q : pQ} {pc : Nat} {L : pL} {S : List pv} {n : Nat} {M : pM} {a b : Nat} (hm : mO j = 3) (hd : decode (mB j) pc = .ok (.putfield 11, 3)) : J O j n0 Q pc L (vr b :: vr (a + 1) :: S) n M = (ob n a = 3 ∧ J O j n0 Q (pc + 3) L S n (st M a 1 (b : Int))) := (J_put (C := True) (x := (b : Int)) fe_57 (by rw [hm]) (Or.inl rfl) (fun y => by show (∃ k : Nat, vr b = vr k ∧ y = (k : Int)) ↔ _; refine ⟨fun h => ?_, fun h => ⟨b, rfl, h.2⟩⟩; obtain ⟨k, h1, h2⟩ := h; cases h1; exact ⟨trivial, h2⟩) hd).trans (by simp only [true_and])
theorem fe_58 : (3, 55, 3, 2, 361, 0) ∈ fldL := by decide +kernel
theorem g_58 {O : pO} {j n0 : Nat} {Q : pQ} {pc : Nat} {L : pL} {S : List pv} {n : Nat} {M : pM} {a : Nat} (hm : mO j = 3) (hd : decode (mB j) pc = .ok (.getfield 55, 3)) : J O j n0 Q pc L (vr (a + 1) :: S) n M = (ob n a = 3 ∧ J O j n0 Q (pc + 3) L (vi (M a 2) :: S) n M) := J_get fe_58 (by rw [hm]) hd
theorem p_58 {O : pO} {j n0 : Nat} {Q : pQ} {pc : Nat} {L : pL} {S : List pv} {n : Nat} {M : pM} {a : Nat} {x : Int} (hm : mO j = 3) (hd : decode (mB j) pc = .ok (.putfield 55, 3)) : J O j n0 Q pc L (vi x :: vr (a + 1) :: S) n M = (ob n a = 3 ∧ J O j n0 Q (pc + 3) L S n (st M a 2 x)) := (J_put (C := True) (x := x) fe_58 (by rw [hm]) (Or.inl rfl) (fun y => by show (vi x = vi y) ↔ _; simp [eq_comm]) hd).trans (by simp only [true_and])
theorem fe_59 : (11, 318, 3, 2, 362, 1) ∈ fldL := by decide +kernel
theorem g_59 {O : pO} {j n0 : Nat} {Q : pQ} {pc : Nat} {L : pL} {S : List pv} {n : Nat} {M : pM} {a : Nat} (hm : mO j = 11) (hd : decode (mB j) pc = .ok (.getfield 318, 3)) : J O j n0 Q pc L (vr (a + 1) :: S) n M = (ob n a = 3 ∧ J O j n0 Q (pc + 3) L (vi (M a 2) :: S) n M) := J_get fe_59 (by rw [hm]) hd
theorem p_59 {O : pO} {j n0 : Nat} {Q : pQ} {pc : Nat} {L : pL} {S : List pv} {n : Nat} {M : pM} {a : Nat} {x : Int} (hm : mO j = 11) (hd : decode (mB j) pc = .ok (.putfield 318, 3)) : J O j n0 Q pc L (vi x :: vr (a + 1) :: S) n M = (ob n a = 3 ∧ J O j n0 Q (pc + 3) L S n (st M a 2 x)) := (J_put (C := True) (x := x) fe_59 (by rw [hm]) (Or.inl rfl) (fun y => by show (vi x = vi y) ↔ _; simp [eq_comm]) hd).trans (by simp only [true_and])
theorem fe_60 : (3, 15, 3, 3, 363, 0) ∈ fldL := by decide +kernel
theorem g_60 {O : pO} {j n0 : Nat} {Q : pQ} {pc : Nat} {L : pL} {S : List pv} {n : Nat} {M : pM} {a : Nat} (hm : mO j = 3) (hd : decode (mB j) pc = .ok (.getfield 15, 3)) : J O j n0 Q pc L (vr (a + 1) :: S) n M = (ob n a = 3 ∧ J O j n0 Q (pc + 3) L (vr (M a 3).toNat :: S) n M) := J_get fe_60 (by rw [hm]) hd
theorem p_60 {O : pO} {j n0 : Nat} {Q : pQ} {pc : Nat} {L : pL} {S : List pv} {n : Nat} {M : pM} {a b : Nat} (hm : mO j = 3) (hd : decode (mB j) pc = .ok (.putfield 15, 3)) : J O j n0 Q pc L (vr b :: vr (a + 1) :: S) n M = (ob n a = 3 ∧ J O j n0 Q (pc + 3) L S n (st M a 3 (b : Int))) := (J_put (C := True) (x := (b : Int)) fe_60 (by rw [hm]) (Or.inl rfl) (fun y => by show (∃ k : Nat, vr b = vr k ∧ y = (k : Int)) ↔ _; refine ⟨fun h => ?_, fun h => ⟨b, rfl, h.2⟩⟩; obtain ⟨k, h1, h2⟩ := h; cases h1; exact ⟨trivial, h2⟩) hd).trans (by simp only [true_and])
theorem fe_61 : (3, 31, 3, 4, 364, 0) ∈ fldL := by decide +kernel
theorem g_61 {O : pO} {j n0 : Nat} {Q : pQ} {pc : Nat} {L : pL} {S : List pv} {n : Nat} {M : pM} {a : Nat} (hm : mO j = 3) (hd : decode (mB j) pc = .ok (.getfield 31, 3)) : J O j n0 Q pc L (vr (a + 1) :: S) n M = (ob n a = 3 ∧ J O j n0 Q (pc + 3) L (vi (M a 4) :: S) n M) := J_get fe_61 (by rw [hm]) hd
theorem p_61 {O : pO} {j n0 : Nat} {Q : pQ} {pc : Nat} {L : pL} {S : List pv} {n : Nat} {M : pM} {a : Nat} {x : Int} (hm : mO j = 3) (hd : decode (mB j) pc = .ok (.putfield 31, 3)) : J O j n0 Q pc L (vi x :: vr (a + 1) :: S) n M = (ob n a = 3 ∧ J O j n0 Q (pc + 3) L S n (st M a 4 x)) := (J_put (C := True) (x := x) fe_61 (by rw [hm]) (Or.inl rfl) (fun y => by show (vi x = vi y) ↔ _; simp [eq_comm]) hd).trans (by simp only [true_and])
theorem fe_62 : (3, 35, 3, 5, 365, 0) ∈ fldL := by decide +kernel
theorem g_62 {O : pO} {j n0 : Nat} {Q : pQ} {pc : Nat} {L : pL} {S : List pv} {n : Nat} {M : pM} {a : Nat} (hm : mO j = 3) (hd : decode (mB j) pc = .ok (.getfield 35, 3)) : J O j n0 Q pc L (vr (a + 1) :: S) n M = (ob n a = 3 ∧ J O j n0 Q (pc + 3) L (vi (M a 5) :: S) n M) := J_get fe_62 (by rw [hm]) hd
theorem p_62 {O : pO} {j n0 : Nat} {Q : pQ} {pc : Nat} {L : pL} {S : List pv} {n : Nat} {M : pM} {a : Nat} {x : Int} (hm : mO j = 3) (hd : decode (mB j) pc = .ok (.putfield 35, 3)) : J O j n0 Q pc L (vi x :: vr (a + 1) :: S) n M = (ob n a = 3 ∧ J O j n0 Q (pc + 3) L S n (st M a 5 x)) := (J_put (C := True) (x := x) fe_62 (by rw [hm]) (Or.inl rfl) (fun y => by show (vi x = vi y) ↔ _; simp [eq_comm]) hd).trans (by simp only [true_and])
theorem fe_63 : (3, 18, 3, 6, 366, 0) ∈ fldL := by decide +kernel
theorem g_63 {O : pO} {j n0 : Nat} {Q : pQ} {pc : Nat} {L : pL} {S : List pv} {n : Nat} {M : pM} {a : Nat} (hm : mO j = 3) (hd : decode (mB j) pc = .ok (.getfield 18, 3)) : J O j n0 Q pc L (vr (a + 1) :: S) n M = (ob n a = 3 ∧ J O j n0 Q (pc + 3) L (vr (M a 6).toNat :: S) n M) := J_get fe_63 (by rw [hm]) hd
theorem p_63 {O : pO} {j n0 : Nat} {Q : pQ} {pc : Nat} {L : pL} {S : List pv} {n : Nat} {M : pM} {a b : Nat} (hm : mO j = 3) (hi : (mY j).name = "<init>") (hd : decode (mB j) pc = .ok (.putfield 18, 3)) : J O j n0 Q pc L (vr b :: vr (a + 1) :: S) n M = (ob n a = 3 ∧ J O j n0 Q (pc + 3) L S n (st M a 6 (b : Int))) := (J_put (C := True) (x := (b : Int)) fe_63 (by rw [hm]) (Or.inr ⟨hi, hm.symm, rfl⟩) (fun y => by show (∃ k : Nat, vr b = vr k ∧ y = (k : Int)) ↔ _; refine ⟨fun h => ?_, fun h => ⟨b, rfl, h.2⟩⟩; obtain ⟨k, h1, h2⟩ := h; cases h1; exact ⟨trivial, h2⟩) hd).trans (by simp only [true_and])
theorem fe_64 : (0, 9, 0, 0, 388, 0) ∈ fldL := by decide +kernel
theorem g_64 {O : pO} {j n0 : Nat} {Q : pQ} {pc : Nat} {L : pL} {S : List pv} {n : Nat} {M : pM} {a : Nat} (hm : mO j = 0) (hd : decode (mB j) pc = .ok (.getfield 9, 3)) : J O j n0 Q pc L (vr (a + 1) :: S) n M = (ob n a = 0 ∧ J O j n0 Q (pc + 3) L (vr (M a 0).toNat :: S) n M) := J_get fe_64 (by rw [hm]) hd
theorem p_64 {O : pO} {j n0 : Nat} {Q : pQ} {pc : Nat} {L : pL} {S : List pv} {n : Nat} {M : pM} {a b : Nat} (hm : mO j = 0) (hi : (mY j).name = "<init>") (hd : decode (mB j) pc = .ok (.putfield 9, 3)) : J O j n0 Q pc L (vr b :: vr (a + 1) :: S) n M = (ob n a = 0 ∧ J O j n0 Q (pc + 3) L S n (st M a 0 (b : Int))) := (J_put (C := True) (x := (b : Int)) fe_64 (by rw [hm]) (Or.inr ⟨hi, hm.symm, rfl⟩) (fun y => by show (∃ k : Nat, vr b = vr k ∧ y = (k : Int)) ↔ _; refine ⟨fun h => ?_, fun h => ⟨b, rfl, h.2⟩⟩; obtain ⟨k, h1, h2⟩ := h; cases h1; exact ⟨trivial, h2⟩) hd).trans (by simp only [true_and])
theorem fe_65 : (8, 52, 0, 0, 389, 1) ∈ fldL := by decide +kernel
theorem g_65 {O : pO} {j n0 : Nat} {Q : pQ} {pc : Nat} {L : pL} {S : List pv} {n : Nat} {M : pM} {a : Nat} (hm : mO j = 8) (hd : decode (mB j) pc = .ok (.getfield 52, 3)) : J O j n0 Q pc L (vr (a + 1) :: S) n M = (ob n a = 0 ∧ J O j n0 Q (pc + 3) L (vr (M a 0).toNat :: S) n M) := J_get fe_65 (by rw [hm]) hd
theorem fe_66 : (0, 23, 0, 1, 390, 0) ∈ fldL := by decide +kernel
theorem g_66 {O : pO} {j n0 : Nat} {Q : pQ} {pc : Nat} {L : pL} {S : List pv} {n : Nat} {M : pM} {a : Nat} (hm : mO j = 0) (hd : decode (mB j) pc = .ok (.getfield 23, 3)) : J O j n0 Q pc L (vr (a + 1) :: S) n M = (ob n a = 0 ∧ J O j n0 Q (pc + 3) L (vi (M a 1) :: S) n M) := J_get fe_66 (by rw [hm]) hd
theorem p_66 {O : pO} {j n0 : Nat} {Q : pQ} {pc : Nat} {L : pL} {S : List pv} {n : Nat} {M : pM} {a : Nat} {x : Int} (hm : mO j = 0) (hd : decode (mB j) pc = .ok (.putfield 23, 3)) : J O j n0 Q pc L (vi x :: vr (a + 1) :: S) n M = (ob n a = 0 ∧ J O j n0 Q (pc + 3) L S n (st M a 1 x)) := (J_put (C := True) (x := x) fe_66 (by rw [hm]) (Or.inl rfl) (fun y => by show (vi x = vi y) ↔ _; simp [eq_comm]) hd).trans (by simp only [true_and])
theorem fe_67 : (8, 49, 0, 1, 391, 1) ∈ fldL := by decide +kernel
theorem g_67 {O : pO} {j n0 : Nat} {Q : pQ} {pc : Nat} {L : pL} {S : List pv} {n : Nat} {M : pM} {a : Nat} (hm : mO j = 8) (hd : decode (mB j) pc = .ok (.getfield 49, 3)) : J O j n0 Q pc L (vr (a + 1) :: S) n M = (ob n a = 0 ∧ J O j n0 Q (pc + 3) L (vi (M a 1) :: S) n M) := J_get fe_67 (by rw [hm]) hd
theorem p_67 {O : pO} {j n0 : Nat} {Q : pQ} {pc : Nat} {L : pL} {S : List pv} {n : Nat} {M : pM} {a : Nat} {x : Int} (hm : mO j = 8) (hd : decode (mB j) pc = .ok (.putfield 49, 3)) : J O j n0 Q pc L (vi x :: vr (a + 1) :: S) n M = (ob n a = 0 ∧ J O j n0 Q (pc + 3) L S n (st M a 1 x)) := (J_put (C := True) (x := x) fe_67 (by rw [hm]) (Or.inl rfl) (fun y => by show (vi x = vi y) ↔ _; simp [eq_comm]) hd).trans (by simp only [true_and])
theorem fe_68 : (11, 317, 0, 1, 392, 1) ∈ fldL := by decide +kernel
theorem g_68 {O : pO} {j n0 : Nat} {Q : pQ} {pc : Nat} {L : pL} {S : List pv} {n : Nat} {M : pM} {a : Nat} (hm : mO j = 11) (hd : decode (mB j) pc = .ok (.getfield 317, 3)) : J O j n0 Q pc L (vr (a + 1) :: S) n M = (ob n a = 0 ∧ J O j n0 Q (pc + 3) L (vi (M a 1) :: S) n M) := J_get fe_68 (by rw [hm]) hd
theorem p_68 {O : pO} {j n0 : Nat} {Q : pQ} {pc : Nat} {L : pL} {S : List pv} {n : Nat} {M : pM} {a : Nat} {x : Int} (hm : mO j = 11) (hd : decode (mB j) pc = .ok (.putfield 317, 3)) : J O j n0 Q pc L (vi x :: vr (a + 1) :: S) n M = (ob n a = 0 ∧ J O j n0 Q (pc + 3) L S n (st M a 1 x)) := (J_put (C := True) (x := x) fe_68 (by rw [hm]) (Or.inl rfl) (fun y => by show (vi x = vi y) ↔ _; simp [eq_comm]) hd).trans (by simp only [true_and])
theorem fe_69 : (8, 59, 0, 2, 393, 1) ∈ fldL := by decide +kernel
theorem g_69 {O : pO} {j n0 : Nat} {Q : pQ} {pc : Nat} {L : pL} {S : List pv} {n : Nat} {M : pM} {a : Nat} (hm : mO j = 8) (hd : decode (mB j) pc = .ok (.getfield 59, 3)) : J O j n0 Q pc L (vr (a + 1) :: S) n M = (ob n a = 0 ∧ J O j n0 Q (pc + 3) L (vi (M a 2) :: S) n M) := J_get fe_69 (by rw [hm]) hd
theorem p_69 {O : pO} {j n0 : Nat} {Q : pQ} {pc : Nat} {L : pL} {S : List pv} {n : Nat} {M : pM} {a : Nat} {x : Int} (hm : mO j = 8) (hd : decode (mB j) pc = .ok (.putfield 59, 3)) : J O j n0 Q pc L (vi x :: vr (a + 1) :: S) n M = (ob n a = 0 ∧ J O j n0 Q (pc + 3) L S n (st M a 2 x)) := (J_put (C := True) (x := x) fe_69 (by rw [hm]) (Or.inl rfl) (fun y => by show (vi x = vi y) ↔ _; simp [eq_comm]) hd).trans (by simp only [true_and])
theorem fe_70 : (11, 218, 0, 2, 394, 1) ∈ fldL := by decide +kernel
theorem g_70 {O : pO} {j n0 : Nat} {Q : pQ} {pc : Nat} {L : pL} {S : List pv} {n : Nat} {M : pM} {a : Nat} (hm : mO j = 11) (hd : decode (mB j) pc = .ok (.getfield 218, 3)) : J O j n0 Q pc L (vr (a + 1) :: S) n M = (ob n a = 0 ∧ J O j n0 Q (pc + 3) L (vi (M a 2) :: S) n M) := J_get fe_70 (by rw [hm]) hd
theorem p_70 {O : pO} {j n0 : Nat} {Q : pQ} {pc : Nat} {L : pL} {S : List pv} {n : Nat} {M : pM} {a : Nat} {x : Int} (hm : mO j = 11) (hd : decode (mB j) pc = .ok (.putfield 218, 3)) : J O j n0 Q pc L (vi x :: vr (a + 1) :: S) n M = (ob n a = 0 ∧ J O j n0 Q (pc + 3) L S n (st M a 2 x)) := (J_put (C := True) (x := x) fe_70 (by rw [hm]) (Or.inl rfl) (fun y => by show (vi x = vi y) ↔ _; simp [eq_comm]) hd).trans (by simp only [true_and])
theorem fe_71 : (1, 11, 1, 0, 417, 0) ∈ fldL := by decide +kernel
theorem g_71 {O : pO} {j n0 : Nat} {Q : pQ} {pc : Nat} {L : pL} {S : List pv} {n : Nat} {M : pM} {a : Nat} (hm : mO j = 1) (hd : decode (mB j) pc = .ok (.getfield 11, 3)) : J O j n0 Q pc L (vr (a + 1) :: S) n M = (ob n a = 1 ∧ J O j n0 Q (pc + 3) L (vr (M a 0).toNat :: S) n M) := J_get fe_71 (by rw [hm]) hd
theorem p_71 {O : pO} {j n0 : Nat} {Q : pQ} {pc : Nat} {L : pL} {S : List pv} {n : Nat} {M : pM} {a b : Nat} (hm : mO j = 1) (hi : (mY j).name = "<init>") (hd : decode (mB j) pc = .ok (.putfield 11, 3)) : J O j n0 Q pc L (vr b :: vr (a + 1) :: S) n M = (ob n a = 1 ∧ J O j n0 Q (pc + 3) L S n (st M a 0 (b : Int))) := (J_put (C := True) (x := (b : Int)) fe_71 (by rw [hm]) (Or.inr ⟨hi, hm.symm, rfl⟩) (fun y => by show (∃ k : Nat, vr b = vr k ∧ y = (k : Int)) ↔ _; refine ⟨fun h => ?_, fun h => ⟨b, rfl, h.2⟩⟩; obtain ⟨k, h1, h2⟩ := h; cases h1; exact ⟨trivial, h2⟩) hd).trans (by simp only [true_and])
theorem fe_72 : (1, 15, 1, 1, 418, 0) ∈ fldL := by decide +kernel
theorem g_72 {O : pO} {j n0 : Nat} {Q : pQ} {pc : Nat} {L : pL} {S : List pv} {n : Nat} {M : pM} {a : Nat} (hm : mO j = 1) (hd : decode (mB j) pc = .ok (.getfield 15, 3)) : J O j n0 Q pc L (vr (a + 1) :: S) n M = (ob n a = 1 ∧ J O j n0 Q (pc + 3) L (vr (M a 1).toNat :: S) n M) := J_get fe_72 (by rw [hm]) hd
theorem p_72 {O : pO} {j n0 : Nat} {Q : pQ} {pc : Nat} {L : pL} {S : List pv} {n : Nat} {M : pM} {a b : Nat} (hm : mO j = 1) (hi : (mY j).name = "<init>") (hd : decode (mB j) pc = .ok (.putfield 15, 3)) : J O j n0 Q pc L (vr b :: vr (a + 1) :: S) n M = (ob n a = 1 ∧ J O j n0 Q (pc + 3) L S n (st M a 1 (b : Int))) := (J_put (C := True) (x := (b : Int)) fe_72 (by rw [hm]) (Or.inr ⟨hi, hm.symm, rfl⟩) (fun y => by show (∃ k : Nat, vr b = vr k ∧ y = (k : Int)) ↔ _; refine ⟨fun h => ?_, fun h => ⟨b, rfl, h.2⟩⟩; obtain ⟨k, h1, h2⟩ := h; cases h1; exact ⟨trivial, h2⟩) hd).trans (by simp only [true_and])
theorem fe_73 : (1, 19, 1, 2, 419, 0) ∈ fldL := by decide +kernel
theorem g_73 {O : pO} {j n0 : Nat} {Q : pQ} {pc : Nat} {L : pL} {S : List pv} {n : Nat} {M : pM} {a : Nat} (hm : mO j = 1) (hd : decode (mB j) pc = .ok (.getfield 19, 3)) : J O j n0 Q pc L (vr (a + 1) :: S) n M = (ob n a = 1 ∧ J O j n0 Q (pc + 3) L (vr (M a 2).toNat :: S) n M) := J_get fe_73 (by rw [hm]) hd
theorem p_73 {O : pO} {j n0 : Nat} {Q : pQ} {pc : Nat} {L : pL} {S : List pv} {n : Nat} {M : pM} {a b : Nat} (hm : mO j = 1) (hi : (mY j).name = "<init>") (hd : decode (mB j) pc = .ok (.putfield 19, 3)) : J O j n0 Q pc L (vr b :: vr (a + 1) :: S) n M = (ob n a = 1 ∧ J O j n0 Q (pc + 3) L S n (st M a 2 (b : Int))) := (J_put (C := True) (x := (b : Int)) fe_73 (by rw [hm]) (Or.inr ⟨hi, hm.symm, rfl⟩) (fun y => by show (∃ k : Nat, vr b = vr k ∧ y = (k : Int)) ↔ _; refine ⟨fun h => ?_, fun h => ⟨b, rfl, h.2⟩⟩; obtain ⟨k, h1, h2⟩ := h; cases h1; exact ⟨trivial, h2⟩) hd).trans (by simp only [true_and])
theorem fe_74 : (1, 22, 1, 3, 420, 0) ∈ fldL := by decide +kernel
theorem g_74 {O : pO} {j n0 : Nat} {Q : pQ} {pc : Nat} {L : pL} {S : List pv} {n : Nat} {M : pM} {a : Nat} (hm : mO j = 1) (hd : decode (mB j) pc = .ok (.getfield 22, 3)) : J O j n0 Q pc L (vr (a + 1) :: S) n M = (ob n a = 1 ∧ J O j n0 Q (pc + 3) L (vr (M a 3).toNat :: S) n M) := J_get fe_74 (by rw [hm]) hd
theorem p_74 {O : pO} {j n0 : Nat} {Q : pQ} {pc : Nat} {L : pL} {S : List pv} {n : Nat} {M : pM} {a b : Nat} (hm : mO j = 1) (hi : (mY j).name = "<init>") (hd : decode (mB j) pc = .ok (.putfield 22, 3)) : J O j n0 Q pc L (vr b :: vr (a + 1) :: S) n M = (ob n a = 1 ∧ J O j n0 Q (pc + 3) L S n (st M a 3 (b : Int))) := (J_put (C := True) (x := (b : Int)) fe_74 (by rw [hm]) (Or.inr ⟨hi, hm.symm, rfl⟩) (fun y => by show (∃ k : Nat, vr b = vr k ∧ y = (k : Int)) ↔ _; refine ⟨fun h => ?_, fun h => ⟨b, rfl, h.2⟩⟩; obtain ⟨k, h1, h2⟩ := h; cases h1; exact ⟨trivial, h2⟩) hd).trans (by simp only [true_and])
theorem fe_75 : (11, 182, 1, 3, 421, 1) ∈ fldL := by decide +kernel
theorem g_75 {O : pO} {j n0 : Nat} {Q : pQ} {pc : Nat} {L : pL} {S : List pv} {n : Nat} {M : pM} {a : Nat} (hm : mO j = 11) (hd : decode (mB j) pc = .ok (.getfield 182, 3)) : J O j n0 Q pc L (vr (a + 1) :: S) n M = (ob n a = 1 ∧ J O j n0 Q (pc + 3) L (vr (M a 3).toNat :: S) n M) := J_get fe_75 (by rw [hm]) hd
theorem fe_76 : (1, 28, 1, 4, 422, 0) ∈ fldL := by decide +kernel
theorem g_76 {O : pO} {j n0 : Nat} {Q : pQ} {pc : Nat} {L : pL} {S : List pv} {n : Nat} {M : pM} {a : Nat} (hm : mO j = 1) (hd : decode (mB j) pc = .ok (.getfield 28, 3)) : J O j n0 Q pc L (vr (a + 1) :: S) n M = (ob n a = 1 ∧ J O j n0 Q (pc + 3) L (vr (M a 4).toNat :: S) n M) := J_get fe_76 (by rw [hm]) hd
theorem p_76 {O : pO} {j n0 : Nat} {Q : pQ} {pc : Nat} {L : pL} {S : List pv} {n : Nat} {M : pM} {a b : Nat} (hm : mO j = 1) (hi : (mY j).name = "<init>") (hd : decode (mB j) pc = .ok (.putfield 28, 3)) : J O j n0 Q pc L (vr b :: vr (a + 1) :: S) n M = (ob n a = 1 ∧ J O j n0 Q (pc + 3) L S n (st M a 4 (b : Int))) := (J_put (C := True) (x := (b : Int)) fe_76 (by rw [hm]) (Or.inr ⟨hi, hm.symm, rfl⟩) (fun y => by show (∃ k : Nat, vr b = vr k ∧ y = (k : Int)) ↔ _; refine ⟨fun h => ?_, fun h => ⟨b, rfl, h.2⟩⟩; obtain ⟨k, h1, h2⟩ := h; cases h1; exact ⟨trivial, h2⟩) hd).trans (by simp only [true_and])
theorem fe_77 : (1, 74, 1, 5, 423, 0) ∈ fldL := by decide +kernel
theorem g_77 {O : pO} {j n0 : Nat} {Q : pQ} {pc : Nat} {L : pL} {S : List pv} {n : Nat} {M : pM} {a : Nat} (hm : mO j = 1) (hd : decode (mB j) pc = .ok (.getfield 74, 3)) : J O j n0 Q pc L (vr (a + 1) :: S) n M = (ob n a = 1 ∧ J O j n0 Q (pc + 3) L (vi (M a 5) :: S) n M) := J_get fe_77 (by rw [hm]) hd
theorem p_77 {O : pO} {j n0 : Nat} {Q : pQ} {pc : Nat} {L : pL} {S : List pv} {n : Nat} {M : pM} {a : Nat} {x : Int} (hm : mO j = 1) (hd : decode (mB j) pc = .ok (.putfield 74, 3)) : J O j n0 Q pc L (vi x :: vr (a + 1) :: S) n M = (ob n a = 1 ∧ J O j n0 Q (pc + 3) L S n (st M a 5 x)) := (J_put (C := True) (x := x) fe_77 (by rw [hm]) (Or.inl rfl) (fun y => by show (vi x = vi y) ↔ _; simp [eq_comm]) hd).trans (by simp only [true_and])
theorem fe_78 : (11, 179, 1, 5, 424, 1) ∈ fldL := by decide +kernel
theorem g_78 {O : pO} {j n0 : Nat} {Q : pQ} {pc : Nat} {L : pL} {S : List pv} {n : Nat} {M : pM} {a : Nat} (hm : mO j = 11) (hd : decode (mB j) pc = .ok (.getfield 179, 3)) : J O j n0 Q pc L (vr (a + 1) :: S) n M = (ob n a = 1 ∧ J O j n0 Q (pc + 3) L (vi (M a 5) :: S) n M) := J_get fe_78 (by rw [hm]) hd
theorem p_78 {O : pO} {j n0 : Nat} {Q : pQ} {pc : Nat} {L : pL} {S : List pv} {n : Nat} {M : pM} {a : Nat} {x : Int} (hm : mO j = 11) (hd : decode (mB j) pc = .ok (.putfield 179, 3)) : J O j n0 Q pc L (vi x :: vr (a + 1) :: S) n M = (ob n a = 1 ∧ J O j n0 Q (pc + 3) L S n (st M a 5 x)) := (J_put (C := True) (x := x) fe_78 (by rw [hm]) (Or.inl rfl) (fun y => by show (vi x = vi y) ↔ _; simp [eq_comm]) hd).trans (by simp only [true_and])
theorem fe_79 : (1, 71, 1, 6, 425, 0) ∈ fldL := by decide +kernel
theorem g_79 {O : pO} {j n0 : Nat} {Q : pQ} {pc : Nat} {L : pL} {S : List pv} {n : Nat} {M : pM} {a : Nat} (hm : mO j = 1) (hd : decode (mB j) pc = .ok (.getfield 71, 3)) : J O j n0 Q pc L (vr (a + 1) :: S) n M = (ob n a = 1 ∧ J O j n0 Q (pc + 3) L (vi (M a 6) :: S) n M) := J_get fe_79 (by rw [hm]) hd
theorem p_79 {O : pO} {j n0 : Nat} {Q : pQ} {pc : Nat} {L : pL} {S : List pv} {n : Nat} {M : pM} {a : Nat} {x : Int} (hm : mO j = 1) (hd : decode (mB j) pc = .ok (.putfield 71, 3)) : J O j n0 Q pc L (vi x :: vr (a + 1) :: S) n M = (ob n a = 1 ∧ J O j n0 Q (pc + 3) L S n (st M a 6 x)) := (J_put (C := True) (x := x) fe_79 (by rw [hm]) (Or.inl rfl) (fun y => by show (vi x = vi y) ↔ _; simp [eq_comm]) hd).trans (by simp only [true_and])
theorem fe_80 : (11, 176, 1, 6, 426, 1) ∈ fldL := by decide +kernel
theorem g_80 {O : pO} {j n0 : Nat} {Q : pQ} {pc : Nat} {L : pL} {S : List pv} {n : Nat} {M : pM} {a : Nat} (hm : mO j = 11) (hd : decode (mB j) pc = .ok (.getfield 176, 3)) : J O j n0 Q pc L (vr (a + 1) :: S) n M = (ob n a = 1 ∧ J O j n0 Q (pc + 3) L (vi (M a 6) :: S) n M) := J_get fe_80 (by rw [hm]) hd
theorem p_80 {O : pO} {j n0 : Nat} {Q : pQ} {pc : Nat} {L : pL} {S : List pv} {n : Nat} {M : pM} {a : Nat} {x : Int} (hm : mO j = 11) (hd : decode (mB j) pc = .ok (.putfield 176, 3)) : J O j n0 Q pc L (vi x :: vr (a + 1) :: S) n M = (ob n a = 1 ∧ J O j n0 Q (pc + 3) L S n (st M a 6 x)) := (J_put (C := True) (x := x) fe_80 (by rw [hm]) (Or.inl rfl) (fun y => by show (vi x = vi y) ↔ _; simp [eq_comm]) hd).trans (by simp only [true_and])
theorem fe_81 : (1, 32, 1, 7, 427, 0) ∈ fldL := by decide +kernel
theorem g_81 {O : pO} {j n0 : Nat} {Q : pQ} {pc : Nat} {L : pL} {S : List pv} {n : Nat} {M : pM} {a : Nat} (hm : mO j = 1) (hd : decode (mB j) pc = .ok (.getfield 32, 3)) : J O j n0 Q pc L (vr (a + 1) :: S) n M = (ob n a = 1 ∧ J O j n0 Q (pc + 3) L (vr (M a 7).toNat :: S) n M) := J_get fe_81 (by rw [hm]) hd
theorem p_81 {O : pO} {j n0 : Nat} {Q : pQ} {pc : Nat} {L : pL} {S : List pv} {n : Nat} {M : pM} {a b : Nat} (hm : mO j = 1) (hd : decode (mB j) pc = .ok (.putfield 32, 3)) : J O j n0 Q pc L (vr b :: vr (a + 1) :: S) n M = (ob n a = 1 ∧ J O j n0 Q (pc + 3) L S n (st M a 7 (b : Int))) := (J_put (C := True) (x := (b : Int)) fe_81 (by rw [hm]) (Or.inl rfl) (fun y => by show (∃ k : Nat, vr b = vr k ∧ y = (k : Int)) ↔ _; refine ⟨fun h => ?_, fun h => ⟨b, rfl, h.2⟩⟩; obtain ⟨k, h1, h2⟩ := h; cases h1; exact ⟨trivial, h2⟩) hd).trans (by simp only [true_and])
theorem fe_82 : (1, 36, 1, 8, 428, 0) ∈ fldL := by decide +kernel
theorem g_82 {O : pO} {j n0 : Nat} {Q : pQ} {pc : Nat} {L : pL} {S : List pv} {n : Nat} {M : pM} {a : Nat} (hm : mO j = 1) (hd : decode (mB j) pc = .ok (.getfield 36, 3)) : J O j n0 Q pc L (vr (a + 1) :: S) n M = (ob n a = 1 ∧ J O j n0 Q (pc + 3) L (vr (M a 8).toNat :: S) n M) := J_get fe_82 (by rw [hm]) hd
theorem p_82 {O : pO} {j n0 : Nat} {Q : pQ} {pc : Nat} {L : pL} {S : List pv} {n : Nat} {M : pM} {a b : Nat} (hm : mO j = 1) (hd : decode (mB j) pc = .ok (.putfield 36, 3)) : J O j n0 Q pc L (vr b :: vr (a + 1) :: S) n M = (ob n a = 1 ∧ J O j n0 Q (pc + 3) L S n (st M a 8 (b : Int))) := (J_put (C := True) (x := (b : Int)) fe_82 (by rw [hm]) (Or.inl rfl) (fun y => by show (∃ k : Nat, vr b = vr k ∧ y = (k : Int)) ↔ _; refine ⟨fun h => ?_, fun h => ⟨b, rfl, h.2⟩⟩; obtain ⟨k, h1, h2⟩ := h; cases h1; exact ⟨trivial, h2⟩) hd).trans (by simp only [true_and])
theorem fe_83 : (1, 146, 1, 9, 429, 0) ∈ fldL := by decide +kernel
theorem g_83 {O : pO} {j n0 : Nat} {Q : pQ} {pc : Nat} {L : pL} {S : List pv} {n : Nat} {M : pM} {a : Nat} (hm : mO j = 1) (hd : decode (mB j) pc = .ok (.getfield 146, 3)) : J O j n0 Q pc L (vr (a + 1) :: S) n M = (ob n a = 1 ∧ J O j n0 Q (pc + 3) L (vi (M a 9) :: S) n M) := J_get fe_83 (by rw [hm]) hd
theorem p_83 {O : pO} {j n0 : Nat} {Q : pQ} {pc : Nat} {L : pL} {S : List pv} {n : Nat} {M : pM} {a : Nat} {x : Int} (hm : mO j = 1) (hd : decode (mB j) pc = .ok (.putfield 146, 3)) : J O j n0 Q pc L (vi x :: vr (a + 1) :: S) n M = (ob n a = 1 ∧ J O j n0 Q (pc + 3) L S n (st M a 9 x)) := (J_put (C := True) (x := x) fe_83 (by rw [hm]) (Or.inl rfl) (fun y => by show (vi x = vi y) ↔ _; simp [eq_comm]) hd).trans (by simp only [true_and])
theorem fe_84 : (1, 139, 1, 10, 430, 0) ∈ fldL := by decide +kernel
theorem g_84 {O : pO} {j n0 : Nat} {Q : pQ} {pc : Nat} {L : pL} {S : List pv} {n : Nat} {M : pM} {a : Nat} (hm : mO j = 1) (hd : decode (mB j) pc = .ok (.getfield 139, 3)) : J O j n0 Q pc L (vr (a + 1) :: S) n M = (ob n a = 1 ∧ J O j n0 Q (pc + 3) L (vi (M a 10) :: S) n M) := J_get fe_84 (by rw [hm]) hd
theorem p_84 {O : pO} {j n0 : Nat} {Q : pQ} {pc : Nat} {L : pL} {S : List pv} {n : Nat} {M : pM} {a : Nat} {x : Int} (hm : mO j = 1) (hd : decode (mB j) pc = .ok (.putfield 139, 3)) : J O j n0 Q pc L (vi x :: vr (a + 1) :: S) n M = (ob n a = 1 ∧ J O j n0 Q (pc + 3) L S n (st M a 10 x)) := (J_put (C := True) (x := x) fe_84 (by rw [hm]) (Or.inl rfl) (fun y => by show (vi x = vi y) ↔ _; simp [eq_comm]) hd).trans (by simp only [true_and])
theorem fe_85 : (1, 43, 1, 11, 431, 0) ∈ fldL := by decide +kernel
theorem g_85 {O : pO} {j n0 : Nat} {Q : pQ} {pc : Nat} {L : pL} {S : List pv} {n : Nat} {M : pM} {a : Nat} (hm : mO j = 1) (hd : decode (mB j) pc = .ok (.getfield 43, 3)) : J O j n0 Q pc L (vr (a + 1) :: S) n M = (ob n a = 1 ∧ J O j n0 Q (pc + 3) L (vi (M a 11) :: S) n M) := J_get fe_85 (by rw [hm]) hd
theorem p_85 {O : pO} {j n0 : Nat} {Q : pQ} {pc : Nat} {L : pL} {S : List pv} {n : Nat} {M : pM} {a : Nat} {x : Int} (hm : mO j = 1) (hd : decode (mB j) pc = .ok (.putfield 43, 3)) : J O j n0 Q pc L (vi x :: vr (a + 1) :: S) n M = (ob n a = 1 ∧ (x = 0 ∨ x = 1) ∧ J O j n0 Q (pc + 3) L S n (st M a 11 x)) := J_put fe_85 (by rw [hm]) (Or.inl rfl) (fun y => utz) hd
theorem fe_86 : (1, 47, 1, 12, 432, 0) ∈ fldL := by decide +kernel
theorem g_86 {O : pO} {j n0 : Nat} {Q : pQ} {pc : Nat} {L : pL} {S : List pv} {n : Nat} {M : pM} {a : Nat} (hm : mO j = 1) (hd : decode (mB j) pc = .ok (.getfield 47, 3)) : J O j n0 Q pc L (vr (a + 1) :: S) n M = (ob n a = 1 ∧ J O j n0 Q (pc + 3) L (vi (M a 12) :: S) n M) := J_get fe_86 (by rw [hm]) hd
theorem p_86 {O : pO} {j n0 : Nat} {Q : pQ} {pc : Nat} {L : pL} {S : List pv} {n : Nat} {M : pM} {a : Nat} {x : Int} (hm : mO j = 1) (hd : decode (mB j) pc = .ok (.putfield 47, 3)) : J O j n0 Q pc L (vi x :: vr (a + 1) :: S) n M = (ob n a = 1 ∧ J O j n0 Q (pc + 3) L S n (st M a 12 x)) := (J_put (C := True) (x := x) fe_86 (by rw [hm]) (Or.inl rfl) (fun y => by show (vi x = vi y) ↔ _; simp [eq_comm]) hd).trans (by simp only [true_and])
theorem fe_87 : (1, 51, 1, 13, 433, 0) ∈ fldL := by decide +kernel
theorem g_87 {O : pO} {j n0 : Nat} {Q : pQ} {pc : Nat} {L : pL} {S : List pv} {n : Nat} {M : pM} {a : Nat} (hm : mO j = 1) (hd : decode (mB j) pc = .ok (.getfield 51, 3)) : J O j n0 Q pc L (vr (a + 1) :: S) n M = (ob n a = 1 ∧ J O j n0 Q (pc + 3) L (vi (M a 13) :: S) n M) := J_get fe_87 (by rw [hm]) hd
theorem p_87 {O : pO} {j n0 : Nat} {Q : pQ} {pc : Nat} {L : pL} {S : List pv} {n : Nat} {M : pM} {a : Nat} {x : Int} (hm : mO j = 1) (hd : decode (mB j) pc = .ok (.putfield 51, 3)) : J O j n0 Q pc L (vi x :: vr (a + 1) :: S) n M = (ob n a = 1 ∧ J O j n0 Q (pc + 3) L S n (st M a 13 x)) := (J_put (C := True) (x := x) fe_87 (by rw [hm]) (Or.inl rfl) (fun y => by show (vi x = vi y) ↔ _; simp [eq_comm]) hd).trans (by simp only [true_and])
theorem fe_88 : (1, 54, 1, 14, 434, 0) ∈ fldL := by decide +kernel
theorem g_88 {O : pO} {j n0 : Nat} {Q : pQ} {pc : Nat} {L : pL} {S : List pv} {n : Nat} {M : pM} {a : Nat} (hm : mO j = 1) (hd : decode (mB j) pc = .ok (.getfield 54, 3)) : J O j n0 Q pc L (vr (a + 1) :: S) n M = (ob n a = 1 ∧ J O j n0 Q (pc + 3) L (vi (M a 14) :: S) n M) := J_get fe_88 (by rw [hm]) hd
theorem p_88 {O : pO} {j n0 : Nat} {Q : pQ} {pc : Nat} {L : pL} {S : List pv} {n : Nat} {M : pM} {a : Nat} {x : Int} (hm : mO j = 1) (hd : decode (mB j) pc = .ok (.putfield 54, 3)) : J O j n0 Q pc L (vi x :: vr (a + 1) :: S) n M = (ob n a = 1 ∧ J O j n0 Q (pc + 3) L S n (st M a 14 x)) := (J_put (C := True) (x := x) fe_88 (by rw [hm]) (Or.inl rfl) (fun y => by show (vi x = vi y) ↔ _; simp [eq_comm]) hd).trans (by simp only [true_and])
theorem fe_89 : (1, 57, 1, 15, 435, 0) ∈ fldL := by decide +kernel
theorem g_89 {O : pO} {j n0 : Nat} {Q : pQ} {pc : Nat} {L : pL} {S : List pv} {n : Nat} {M : pM} {a : Nat} (hm : mO j = 1) (hd : decode (mB j) pc = .ok (.getfield 57, 3)) : J O j n0 Q pc L (vr (a + 1) :: S) n M = (ob n a = 1 ∧ J O j n0 Q (pc + 3) L (vi (M a 15) :: S) n M) := J_get fe_89 (by rw [hm]) hd
theorem p_89 {O : pO} {j n0 : Nat} {Q : pQ} {pc : Nat} {L : pL} {S : List pv} {n : Nat} {M : pM} {a : Nat} {x : Int} (hm : mO j = 1) (hd : decode (mB j) pc = .ok (.putfield 57, 3)) : J O j n0 Q pc L (vi x :: vr (a + 1) :: S) n M = (ob n a = 1 ∧ J O j n0 Q (pc + 3) L S n (st M a 15 x)) := (J_put (C := True) (x := x) fe_89 (by rw [hm]) (Or.inl rfl) (fun y => by show (vi x = vi y) ↔ _; simp [eq_comm]) hd).trans (by simp only [true_and])
theorem fe_90 : (1, 60, 1, 16, 436, 0) ∈ fldL := by decide +kernel
theorem g_90 {O : pO} {j n0 : Nat} {Q : pQ} {pc : Nat} {L : pL} {S : List pv} {n : Nat} {M : pM} {a : Nat} (hm : mO j = 1) (hd : decode (mB j) pc = .ok (.getfield 60, 3)) : J O j n0 Q pc L (vr (a + 1) :: S) n M = (ob n a = 1 ∧ J O j n0 Q (pc + 3) L (vi (M a 16) :: S) n M) := J_get fe_90 (by rw [hm]) hd
theorem p_90 {O : pO} {j n0 : Nat} {Q : pQ} {pc : Nat} {L : pL} {S : List pv} {n : Nat} {M : pM} {a : Nat} {x : Int} (hm : mO j = 1) (hd : decode (mB j) pc = .ok (.putfield 60, 3)) : J O j n0 Q pc L (vi x :: vr (a + 1) :: S) n M = (ob n a = 1 ∧ J O j n0 Q (pc + 3) L S n (st M a 16 x)) := (J_put (C := True) (x := x) fe_90 (by rw [hm]) (Or.inl rfl) (fun y => by show (vi x = vi y) ↔ _; simp [eq_comm]) hd).trans (by simp only [true_and])
theorem fe_91 : (2, 9, 2, 0, 478, 0) ∈ fldL := by decide +kernel
theorem g_91 {O : pO} {j n0 : Nat} {Q : pQ} {pc : Nat} {L : pL} {S : List pv} {n : Nat} {M : pM} {a : Nat} (hm : mO j = 2) (hd : decode (mB j) pc = .ok (.getfield 9, 3)) : J O j n0 Q pc L (vr (a + 1) :: S) n M = (ob n a = 2 ∧ J O j n0 Q (pc + 3) L (vi (M a 0) :: S) n M) := J_get fe_91 (by rw [hm]) hd
theorem p_91 {O : pO} {j n0 : Nat} {Q : pQ} {pc : Nat} {L : pL} {S : List pv} {n : Nat} {M : pM} {a : Nat} {x : Int} (hm : mO j = 2) (hd : decode (mB j) pc = .ok (.putfield 9, 3)) : J O j n0 Q pc L (vi x :: vr (a + 1) :: S) n M = (ob n a = 2 ∧ J O j n0 Q (pc + 3) L S n (st M a 0 x)) := (J_put (C := True) (x := x) fe_91 (by rw [hm]) (Or.inl rfl) (fun y => by show (vi x = vi y) ↔ _; simp [eq_comm]) hd).trans (by simp only [true_and])
theorem fe_92 : (2, 15, 2, 1, 479, 0) ∈ fldL := by decide +kernel
theorem g_92 {O : pO} {j n0 : Nat} {Q : pQ} {pc : Nat} {L : pL} {S : List pv} {n : Nat} {M : pM} {a : Nat} (hm : mO j = 2) (hd : decode (mB j) pc = .ok (.getfield 15, 3)) : J O j n0 Q pc L (vr (a + 1) :: S) n M = (ob n a = 2 ∧ J O j n0 Q (pc + 3) L (vi (M a 1) :: S) n M) := J_get fe_92 (by rw [hm]) hd
theorem p_92 {O : pO} {j n0 : Nat} {Q : pQ} {pc : Nat} {L : pL} {S : List pv} {n : Nat} {M : pM} {a : Nat} {x : Int} (hm : mO j = 2) (hd : decode (mB j) pc = .ok (.putfield 15, 3)) : J O j n0 Q pc L (vi x :: vr (a + 1) :: S) n M = (ob n a = 2 ∧ J O j n0 Q (pc + 3) L S n (st M a 1 x)) := (J_put (C := True) (x := x) fe_92 (by rw [hm]) (Or.inl rfl) (fun y => by show (vi x = vi y) ↔ _; simp [eq_comm]) hd).trans (by simp only [true_and])
theorem fe_93 : (2, 18, 2, 2, 480, 0) ∈ fldL := by decide +kernel
theorem g_93 {O : pO} {j n0 : Nat} {Q : pQ} {pc : Nat} {L : pL} {S : List pv} {n : Nat} {M : pM} {a : Nat} (hm : mO j = 2) (hd : decode (mB j) pc = .ok (.getfield 18, 3)) : J O j n0 Q pc L (vr (a + 1) :: S) n M = (ob n a = 2 ∧ J O j n0 Q (pc + 3) L (vi (M a 2) :: S) n M) := J_get fe_93 (by rw [hm]) hd
theorem p_93 {O : pO} {j n0 : Nat} {Q : pQ} {pc : Nat} {L : pL} {S : List pv} {n : Nat} {M : pM} {a : Nat} {x : Int} (hm : mO j = 2) (hd : decode (mB j) pc = .ok (.putfield 18, 3)) : J O j n0 Q pc L (vi x :: vr (a + 1) :: S) n M = (ob n a = 2 ∧ J O j n0 Q (pc + 3) L S n (st M a 2 x)) := (J_put (C := True) (x := x) fe_93 (by rw [hm]) (Or.inl rfl) (fun y => by show (vi x = vi y) ↔ _; simp [eq_comm]) hd).trans (by simp only [true_and])
theorem fe_94 : (2, 38, 2, 3, 481, 0) ∈ fldL := by decide +kernel
theorem g_94 {O : pO} {j n0 : Nat} {Q : pQ} {pc : Nat} {L : pL} {S : List pv} {n : Nat} {M : pM} {a : Nat} (hm : mO j = 2) (hd : decode (mB j) pc = .ok (.getfield 38, 3)) : J O j n0 Q pc L (vr (a + 1) :: S) n M = (ob n a = 2 ∧ J O j n0 Q (pc + 3) L (vi (M a 3) :: S) n M) := J_get fe_94 (by rw [hm]) hd
theorem p_94 {O : pO} {j n0 : Nat} {Q : pQ} {pc : Nat} {L : pL} {S : List pv} {n : Nat} {M : pM} {a : Nat} {x : Int} (hm : mO j = 2) (hd : decode (mB j) pc = .ok (.putfield 38, 3)) : J O j n0 Q pc L (vi x :: vr (a + 1) :: S) n M = (ob n a = 2 ∧ J O j n0 Q (pc + 3) L S n (st M a 3 x)) := (J_put (C := True) (x := x) fe_94 (by rw [hm]) (Or.inl rfl) (fun y => by show (vi x = vi y) ↔ _; simp [eq_comm]) hd).trans (by simp only [true_and])
theorem fe_95 : (2, 21, 2, 4, 482, 0) ∈ fldL := by decide +kernel
theorem g_95 {O : pO} {j n0 : Nat} {Q : pQ} {pc : Nat} {L : pL} {S : List pv} {n : Nat} {M : pM} {a : Nat} (hm : mO j = 2) (hd : decode (mB j) pc = .ok (.getfield 21, 3)) : J O j n0 Q pc L (vr (a + 1) :: S) n M = (ob n a = 2 ∧ J O j n0 Q (pc + 3) L (vr (M a 4).toNat :: S) n M) := J_get fe_95 (by rw [hm]) hd
theorem p_95 {O : pO} {j n0 : Nat} {Q : pQ} {pc : Nat} {L : pL} {S : List pv} {n : Nat} {M : pM} {a b : Nat} (hm : mO j = 2) (hi : (mY j).name = "<init>") (hd : decode (mB j) pc = .ok (.putfield 21, 3)) : J O j n0 Q pc L (vr b :: vr (a + 1) :: S) n M = (ob n a = 2 ∧ J O j n0 Q (pc + 3) L S n (st M a 4 (b : Int))) := (J_put (C := True) (x := (b : Int)) fe_95 (by rw [hm]) (Or.inr ⟨hi, hm.symm, rfl⟩) (fun y => by show (∃ k : Nat, vr b = vr k ∧ y = (k : Int)) ↔ _; refine ⟨fun h => ?_, fun h => ⟨b, rfl, h.2⟩⟩; obtain ⟨k, h1, h2⟩ := h; cases h1; exact ⟨trivial, h2⟩) hd).trans (by simp only [true_and])
theorem fe_96 : (2, 25, 2, 5, 483, 0) ∈ fldL := by decide +kernel
theorem g_96 {O : pO} {j n0 : Nat} {Q : pQ} {pc : Nat} {L : pL} {S : List pv} {n : Nat} {M : pM} {a : Nat} (hm : mO j = 2) (hd : decode (mB j) pc = .ok (.getfield 25, 3)) : J O j n0 Q pc L (vr (a + 1) :: S) n M = (ob n a = 2 ∧ J O j n0 Q (pc + 3) L (vr (M a 5).toNat :: S) n M) := J_get fe_96 (by rw [hm]) hd
theorem p_96 {O : pO} {j n0 : Nat} {Q : pQ} {pc : Nat} {L : pL} {S : List pv} {n : Nat} {M : pM} {a b : Nat} (hm : mO j = 2) (hi : (mY j).name = "<init>") (hd : decode (mB j) pc = .ok (.putfield 25, 3)) : J O j n0 Q pc L (vr b :: vr (a + 1) :: S) n M = (ob n a = 2 ∧ J O j n0 Q (pc + 3) L S n (st M a 5 (b : Int))) := (J_put (C := True) (x := (b : Int)) fe_96 (by rw [hm]) (Or.inr ⟨hi, hm.symm, rfl⟩) (fun y => by show (∃ k : Nat, vr b = vr k ∧ y = (k : Int)) ↔ _; refine ⟨fun h => ?_, fun h => ⟨b, rfl, h.2⟩⟩; obtain ⟨k, h1, h2⟩ := h; cases h1; exact ⟨trivial, h2⟩) hd).trans (by simp only [true_and])
theorem fe_97 : (2, 28, 2, 6, 484, 0) ∈ fldL := by decide +kernel
theorem g_97 {O : pO} {j n0 : Nat} {Q : pQ} {pc : Nat} {L : pL} {S : List pv} {n : Nat} {M : pM} {a : Nat} (hm : mO j = 2) (hd : decode (mB j) pc = .ok (.getfield 28, 3)) : J O j n0 Q pc L (vr (a + 1) :: S) n M = (ob n a = 2 ∧ J O j n0 Q (pc + 3) L (vr (M a 6).toNat :: S) n M) := J_get fe_97 (by rw [hm]) hd
theorem p_97 {O : pO} {j n0 : Nat} {Q : pQ} {pc : Nat} {L : pL} {S : List pv} {n : Nat} {M : pM} {a b : Nat} (hm : mO j = 2) (hi : (mY j).name = "<init>") (hd : decode (mB j) pc = .ok (.putfield 28, 3)) : J O j n0 Q pc L (vr b :: vr (a + 1) :: S) n M = (ob n a = 2 ∧ J O j n0 Q (pc + 3) L S n (st M a 6 (b : Int))) := (J_put (C := True) (x := (b : Int)) fe_97 (by rw [hm]) (Or.inr ⟨hi, hm.symm, rfl⟩) (fun y => by show (∃ k : Nat, vr b = vr k ∧ y = (k : Int)) ↔ _; refine ⟨fun h => ?_, fun h => ⟨b, rfl, h.2⟩⟩; obtain ⟨k, h1, h2⟩ := h; cases h1; exact ⟨trivial, h2⟩) hd).trans (by simp only [true_and])
theorem fe_98 : (2, 31, 2, 7, 485, 0) ∈ fldL := by decide +kernel
theorem g_98 {O : pO} {j n0 : Nat} {Q : pQ} {pc : Nat} {L : pL} {S : List pv} {n : Nat} {M : pM} {a : Nat} (hm : mO j = 2) (hd : decode (mB j) pc = .ok (.getfield 31, 3)) : J O j n0 Q pc L (vr (a + 1) :: S) n M = (ob n a = 2 ∧ J O j n0 Q (pc + 3) L (vr (M a 7).toNat :: S) n M) := J_get fe_98 (by rw [hm]) hd
theorem p_98 {O : pO} {j n0 : Nat} {Q : pQ} {pc : Nat} {L : pL} {S : List pv} {n : Nat} {M : pM} {a b : Nat} (hm : mO j = 2) (hi : (mY j).name = "<init>") (hd : decode (mB j) pc = .ok (.putfield 31, 3)) : J O j n0 Q pc L (vr b :: vr (a + 1) :: S) n M = (ob n a = 2 ∧ J O j n0 Q (pc + 3) L S n (st M a 7 (b : Int))) := (J_put (C := True) (x := (b : Int)) fe_98 (by rw [hm]) (Or.inr ⟨hi, hm.symm, rfl⟩) (fun y => by show (∃ k : Nat, vr b = vr k ∧ y = (k : Int)) ↔ _; refine ⟨fun h => ?_, fun h => ⟨b, rfl, h.2⟩⟩; obtain ⟨k, h1, h2⟩ := h; cases h1; exact ⟨trivial, h2⟩) hd).trans (by simp only [true_and])
theorem fe_99 : (2, 47, 2, 8, 486, 0) ∈ fldL := by decide +kernel
theorem g_99 {O : pO} {j n0 : Nat} {Q : pQ} {pc : Nat} {L : pL} {S : List pv} {n : Nat} {M : pM} {a : Nat} (hm : mO j = 2) (hd : decode (mB j) pc = .ok (.getfield 47, 3)) : J O j n0 Q pc L (vr (a + 1) :: S) n M = (ob n a = 2 ∧ J O j n0 Q (pc + 3) L (vi (M a 8) :: S) n M) := J_get fe_99 (by rw [hm]) hd
theorem p_99 {O : pO} {j n0 : Nat} {Q : pQ} {pc : Nat} {L : pL} {S : List pv} {n : Nat} {M : pM} {a : Nat} {x : Int} (hm : mO j = 2) (hd : decode (mB j) pc = .ok (.putfield 47, 3)) : J O j n0 Q pc L (vi x :: vr (a + 1) :: S) n M = (ob n a = 2 ∧ J O j n0 Q (pc + 3) L S n (st M a 8 x)) := (J_put (C := True) (x := x) fe_99 (by rw [hm]) (Or.inl rfl) (fun y => by show (vi x = vi y) ↔ _; simp [eq_comm]) hd).trans (by simp only [true_and])
theorem fe_100 : (11, 316, 2, 8, 487, 1) ∈ fldL := by decide +kernel
theorem g_100 {O : pO} {j n0 : Nat} {Q : pQ} {pc : Nat} {L : pL} {S : List pv} {n : Nat} {M : pM} {a : Nat} (hm : mO j = 11) (hd : decode (mB j) pc = .ok (.getfield 316, 3)) : J O j n0 Q pc L (vr (a + 1) :: S) n M = (ob n a = 2 ∧ J O j n0 Q (pc + 3) L (vi (M a 8) :: S) n M) := J_get fe_100 (by rw [hm]) hd
theorem p_100 {O : pO} {j n0 : Nat} {Q : pQ} {pc : Nat} {L : pL} {S : List pv} {n : Nat} {M : pM} {a : Nat} {x : Int} (hm : mO j = 11) (hd : decode (mB j) pc = .ok (.putfield 316, 3)) : J O j n0 Q pc L (vi x :: vr (a + 1) :: S) n M = (ob n a = 2 ∧ J O j n0 Q (pc + 3) L S n (st M a 8 x)) := (J_put (C := True) (x := x) fe_100 (by rw [hm]) (Or.inl rfl) (fun y => by show (vi x = vi y) ↔ _; simp [eq_comm]) hd).trans (by simp only [true_and])
theorem fe_101 : (9, 9, 9, 0, 513, 0) ∈ fldL := by decide +kernel
theorem g_101 {O : pO} {j n0 : Nat} {Q : pQ} {pc : Nat} {L : pL} {S : List pv} {n : Nat} {M : pM} {a : Nat} (hm : mO j = 9) (hd : decode (mB j) pc = .ok (.getfield 9, 3)) : J O j n0 Q pc L (vr (a + 1) :: S) n M = (ob n a = 9 ∧ J O j n0 Q (pc + 3) L (vr (M a 0).toNat :: S) n M) := J_get fe_101 (by rw [hm]) hd
theorem p_101 {O : pO} {j n0 : Nat} {Q : pQ} {pc : Nat} {L : pL} {S : List pv} {n : Nat} {M : pM} {a b : Nat} (hm : mO j = 9) (hi : (mY j).name = "<init>") (hd : decode (mB j) pc = .ok (.putfield 9, 3)) : J O j n0 Q pc L (vr b :: vr (a + 1) :: S) n M = (ob n a = 9 ∧ J O j n0 Q (pc + 3) L S n (st M a 0 (b : Int))) := (J_put (C := True) (x := (b : Int)) fe_101 (by rw [hm]) (Or.inr ⟨hi, hm.symm, rfl⟩) (fun y => by show (∃ k : Nat, vr b = vr k ∧ y = (k : Int)) ↔ _; refine ⟨fun h => ?_, fun h => ⟨b, rfl, h.2⟩⟩; obtain ⟨k, h1, h2⟩ := h; cases h1; exact ⟨trivial, h2⟩) hd).trans (by simp only [true_and])
theorem fe_102 : (6, 54, 9, 0, 514, 1) ∈ fldL := by decide +kernel
theorem g_102 {O : pO} {j n0 : Nat} {Q : pQ} {pc : Nat} {L : pL} {S : List pv} {n : Nat} {M : pM} {a : Nat} (hm : mO j = 6) (hd : decode (mB j) pc = .ok (.getfield 54, 3)) : J O j n0 Q pc L (vr (a + 1) :: S) n M = (ob n a = 9 ∧ J O j n0 Q (pc + 3) L (vr (M a 0).toNat :: S) n M) := J_get fe_102 (by rw [hm]) hd
theorem fe_103 : (9, 33, 9, 1, 515, 0) ∈ fldL := by decide +kernel
theorem g_103 {O : pO} {j n0 : Nat} {Q : pQ} {pc : Nat} {L : pL} {S : List pv} {n : Nat} {M : pM} {a : Nat} (hm : mO j = 9) (hd : decode (mB j) pc = .ok (.getfield 33, 3)) : J O j n0 Q pc L (vr (a + 1) :: S) n M = (ob n a = 9 ∧ J O j n0 Q (pc + 3) L (vi (M a 1) :: S) n M) := J_get fe_103 (by rw [hm]) hd
theorem p_103 {O : pO} {j n0 : Nat} {Q : pQ} {pc : Nat} {L : pL} {S : List pv} {n : Nat} {M : pM} {a : Nat} {x : Int} (hm : mO j = 9) (hd : decode (mB j) pc = .ok (.putfield 33, 3)) : J O j n0 Q pc L (vi x :: vr (a + 1) :: S) n M = (ob n a = 9 ∧ J O j n0 Q (pc + 3) L S n (st M a 1 x)) := (J_put (C := True) (x := x) fe_103 (by rw [hm]) (Or.inl rfl) (fun y => by show (vi x = vi y) ↔ _; simp [eq_comm]) hd).trans (by simp only [true_and])
theorem fe_104 : (6, 15, 9, 1, 516, 1) ∈ fldL := by decide +kernel
theorem g_104 {O : pO} {j n0 : Nat} {Q : pQ} {pc : Nat} {L : pL} {S : List pv} {n : Nat} {M : pM} {a : Nat} (hm : mO j = 6) (hd : decode (mB j) pc = .ok (.getfield 15, 3)) : J O j n0 Q pc L (vr (a + 1) :: S) n M = (ob n a = 9 ∧ J O j n0 Q (pc + 3) L (vi (M a 1) :: S) n M) := J_get fe_104 (by rw [hm]) hd
theorem p_104 {O : pO} {j n0 : Nat} {Q : pQ} {pc : Nat} {L : pL} {S : List pv} {n : Nat} {M : pM} {a : Nat} {x : Int} (hm : mO j = 6) (hd : decode (mB j) pc = .ok (.putfield 15, 3)) : J O j n0 Q pc L (vi x :: vr (a + 1) :: S) n M = (ob n a = 9 ∧ J O j n0 Q (pc + 3) L S n (st M a 1 x)) := (J_put (C := True) (x := x) fe_104 (by rw [hm]) (Or.inl rfl) (fun y => by show (vi x = vi y) ↔ _; simp [eq_comm]) hd).trans (by simp only [true_and])
theorem fe_105 : (11, 266, 9, 1, 517, 1) ∈ fldL := by decide +kernel
theorem g_105 {O : pO} {j n0 : Nat} {Q : pQ} {pc : Nat} {L : pL} {S : List pv} {n : Nat} {M : pM} {a : Nat} (hm : mO j = 11) (hd : decode (mB j) pc = .ok (.getfield 266, 3)) : J O j n0 Q pc L (vr (a + 1) :: S) n M = (ob n a = 9 ∧ J O j n0 Q (pc + 3) L (vi (M a 1) :: S) n M) := J_get fe_105 (by rw [hm]) hd
theorem p_105 {O : pO} {j n0 : Nat} {Q : pQ} {pc : Nat} {L : pL} {S : List pv} {n : Nat} {M : pM} {a : Nat} {x : Int} (hm : mO j = 11) (hd : decode (mB j) pc = .ok (.putfield 266, 3)) : J O j n0 Q pc L (vi x :: vr (a + 1) :: S) n M = (ob n a = 9 ∧ J O j n0 Q (pc + 3) L S n (st M a 1 x)) := (J_put (C := True) (x := x) fe_105 (by rw [hm]) (Or.inl rfl) (fun y => by show (vi x = vi y) ↔ _; simp [eq_comm]) hd).trans (by simp only [true_and])
theorem fe_106 : (9, 15, 9, 2, 518, 0) ∈ fldL := by decide +kernel
theorem g_106 {O : pO} {j n0 : Nat} {Q : pQ} {pc : Nat} {L : pL} {S : List pv} {n : Nat} {M : pM} {a : Nat} (hm : mO j = 9) (hd : decode (mB j) pc = .ok (.getfield 15, 3)) : J O j n0 Q pc L (vr (a + 1) :: S) n M = (ob n a = 9 ∧ J O j n0 Q (pc + 3) L (vr (M a 2).toNat :: S) n M) := J_get fe_106 (by rw [hm]) hd
theorem p_106 {O : pO} {j n0 : Nat} {Q : pQ} {pc : Nat} {L : pL} {S : List pv} {n : Nat} {M : pM} {a b : Nat} (hm : mO j = 9) (hi : (mY j).name = "<init>") (hd : decode (mB j) pc = .ok (.putfield 15, 3)) : J O j n0 Q pc L (vr b :: vr (a + 1) :: S) n M = (ob n a = 9 ∧ J O j n0 Q (pc + 3) L S n (st M a 2 (b : Int))) := (J_put (C := True) (x := (b : Int)) fe_106 (by rw [hm]) (Or.inr ⟨hi, hm.symm, rfl⟩) (fun y => by show (∃ k : Nat, vr b = vr k ∧ y = (k : Int)) ↔ _; refine ⟨fun h => ?_, fun h => ⟨b, rfl, h.2⟩⟩; obtain ⟨k, h1, h2⟩ := h; cases h1; exact ⟨trivial, h2⟩) hd).trans (by simp only [true_and])
theorem fe_107 : (8, 36, 9, 2, 519, 1) ∈ fldL := by decide +kernel
theorem g_107 {O : pO} {j n0 : Nat} {Q : pQ} {pc : Nat} {L : pL} {S : List pv} {n : Nat} {M : pM} {a : Nat} (hm : mO j = 8) (hd : decode (mB j) pc = .ok (.getfield 36, 3)) : J O j n0 Q pc L (vr (a + 1) :: S) n M = (ob n a = 9 ∧ J O j n0 Q (pc + 3) L (vr (M a 2).toNat :: S) n M) := J_get fe_107 (by rw [hm]) hd
theorem fe_108 : (9, 18, 9, 3, 520, 0) ∈ fldL := by decide +kernel
theorem g_108 {O : pO} {j n0 : Nat} {Q : pQ} {pc : Nat} {L : pL} {S : List pv} {n : Nat} {M : pM} {a : Nat} (hm : mO j = 9) (hd : decode (mB j) pc = .ok (.getfield 18, 3)) : J O j n0 Q pc L (vr (a + 1) :: S) n M = (ob n a = 9 ∧ J O j n0 Q (pc + 3) L (vr (M a 3).toNat :: S) n M) := J_get fe_108 (by rw [hm]) hd
theorem p_108 {O : pO} {j n0 : Nat} {Q : pQ} {pc : Nat} {L : pL} {S : List pv} {n : Nat} {M : pM} {a b : Nat} (hm : mO j = 9) (hi : (mY j).name = "<init>") (hd : decode (mB j) pc = .ok (.putfield 18, 3)) : J O j n0 Q pc L (vr b :: vr (a + 1) :: S) n M = (ob n a = 9 ∧ J O j n0 Q (pc + 3) L S n (st M a 3 (b : Int))) := (J_put (C := True) (x := (b : Int)) fe_108 (by rw [hm]) (Or.inr ⟨hi, hm.symm, rfl⟩) (fun y => by show (∃ k : Nat, vr b = vr k ∧ y = (k : Int)) ↔ _; refine ⟨fun h => ?_, fun h => ⟨b, rfl, h.2⟩⟩; obtain ⟨k, h1, h2⟩ := h; cases h1; exact ⟨trivial, h2⟩) hd).trans (by simp only [true_and])
theorem fe_109 : (8, 43, 9, 3, 521, 1) ∈ fldL := by decide +kernel
theorem g_109 {O : pO} {j n0 : Nat} {Q : pQ} {pc : Nat} {L : pL} {S : List pv} {n : Nat} {M : pM} {a : Nat} (hm : mO j = 8) (hd : decode (mB j) pc = .ok (.getfield 43, 3)) : J O j n0 Q pc L (vr (a + 1) :: S) n M = (ob n a = 9 ∧ J O j n0 Q (pc + 3) L (vr (M a 3).toNat :: S) n M) := J_get fe_109 (by rw [hm]) hd
theorem fe_110 : (9, 21, 9, 4, 522, 0) ∈ fldL := by decide +kernel
theorem g_110 {O : pO} {j n0 : Nat} {Q : pQ} {pc : Nat} {L : pL} {S : List pv} {n : Nat} {M : pM} {a : Nat} (hm : mO j = 9) (hd : decode (mB j) pc = .ok (.getfield 21, 3)) : J O j n0 Q pc L (vr (a + 1) :: S) n M = (ob n a = 9 ∧ J O j n0 Q (pc + 3) L (vr (M a 4).toNat :: S) n M) := J_get fe_110 (by rw [hm]) hd
theorem p_110 {O : pO} {j n0 : Nat} {Q : pQ} {pc : Nat} {L : pL} {S : List pv} {n : Nat} {M : pM} {a b : Nat} (hm : mO j = 9) (hi : (mY j).name = "<init>") (hd : decode (mB j) pc = .ok (.putfield 21, 3)) : J O j n0 Q pc L (vr b :: vr (a + 1) :: S) n M = (ob n a = 9 ∧ J O j n0 Q (pc + 3) L S n (st M a 4 (b : Int))) := (J_put (C := True) (x := (b : Int)) fe_110 (by rw [hm]) (Or.inr ⟨hi, hm.symm, rfl⟩) (fun y => by show (∃ k : Nat, vr b = vr k ∧ y = (k : Int)) ↔ _; refine ⟨fun h => ?_, fun h => ⟨b, rfl, h.2⟩⟩; obtain ⟨k, h1, h2⟩ := h; cases h1; exact ⟨trivial, h2⟩) hd).trans (by simp only [true_and])
theorem fe_111 : (8, 47, 9, 4, 523, 1) ∈ fldL := by decide +kernel
theorem g_111 {O : pO} {j n0 : Nat} {Q : pQ} {pc : Nat} {L : pL} {S : List pv} {n : Nat} {M : pM} {a : Nat} (hm : mO j = 8) (hd : decode (mB j) pc = .ok (.getfield 47, 3)) : J O j n0 Q pc L (vr (a + 1) :: S) n M = (ob n a = 9 ∧ J O j n0 Q (pc + 3) L (vr (M a 4).toNat :: S) n M) := J_get fe_111 (by rw [hm]) hd
theorem fe_112 : (9, 24, 9, 5, 524, 0) ∈ fldL := by decide +kernel
theorem g_112 {O : pO} {j n0 : Nat} {Q : pQ} {pc : Nat} {L : pL} {S : List pv} {n : Nat} {M : pM} {a : Nat} (hm : mO j = 9) (hd : decode (mB j) pc = .ok (.getfield 24, 3)) : J O j n0 Q pc L (vr (a + 1) :: S) n M = (ob n a = 9 ∧ J O j n0 Q (pc + 3) L (vr (M a 5).toNat :: S) n M) := J_get fe_112 (by rw [hm]) hd
theorem p_112 {O : pO} {j n0 : Nat} {Q : pQ} {pc : Nat} {L : pL} {S : List pv} {n : Nat} {M : pM} {a b : Nat} (hm : mO j = 9) (hi : (mY j).name = "<init>") (hd : decode (mB j) pc = .ok (.putfield 24, 3)) : J O j n0 Q pc L (vr b :: vr (a + 1) :: S) n M = (ob n a = 9 ∧ J O j n0 Q (pc + 3) L S n (st M a 5 (b : Int))) := (J_put (C := True) (x := (b : Int)) fe_112 (by rw [hm]) (Or.inr ⟨hi, hm.symm, rfl⟩) (fun y => by show (∃ k : Nat, vr b = vr k ∧ y = (k : Int)) ↔ _; refine ⟨fun h => ?_, fun h => ⟨b, rfl, h.2⟩⟩; obtain ⟨k, h1, h2⟩ := h; cases h1; exact ⟨trivial, h2⟩) hd).trans (by simp only [true_and])
theorem fe_113 : (8, 48, 9, 5, 525, 1) ∈ fldL := by decide +kernel
theorem g_113 {O : pO} {j n0 : Nat} {Q : pQ} {pc : Nat} {L : pL} {S : List pv} {n : Nat} {M : pM} {a : Nat} (hm : mO j = 8) (hd : decode (mB j) pc = .ok (.getfield 48, 3)) : J O j n0 Q pc L (vr (a + 1) :: S) n M = (ob n a = 9 ∧ J O j n0 Q (pc + 3) L (vr (M a 5).toNat :: S) n M) := J_get fe_113 (by rw [hm]) hd
theorem fe_114 : (9, 27, 9, 6, 526, 0) ∈ fldL := by decide +kernel
theorem g_114 {O : pO} {j n0 : Nat} {Q : pQ} {pc : Nat} {L : pL} {S : List pv} {n : Nat} {M : pM} {a : Nat} (hm : mO j = 9) (hd : decode (mB j) pc = .ok (.getfield 27, 3)) : J O j n0 Q pc L (vr (a + 1) :: S) n M = (ob n a = 9 ∧ J O j n0 Q (pc + 3) L (vr (M a 6).toNat :: S) n M) := J_get fe_114 (by rw [hm]) hd
theorem p_114 {O : pO} {j n0 : Nat} {Q : pQ} {pc : Nat} {L : pL} {S : List pv} {n : Nat} {M : pM} {a b : Nat} (hm : mO j = 9) (hi : (mY j).name = "<init>") (hd : decode (mB j) pc = .ok (.putfield 27, 3)) : J O j n0 Q pc L (vr b :: vr (a + 1) :: S) n M = (ob n a = 9 ∧ J O j n0 Q (pc + 3) L S n (st M a 6 (b : Int))) := (J_put (C := True) (x := (b : Int)) fe_114 (by rw [hm]) (Or.inr ⟨hi, hm.symm, rfl⟩) (fun y => by show (∃ k : Nat, vr b = vr k ∧ y = (k : Int)) ↔ _; refine ⟨fun h => ?_, fun h => ⟨b, rfl, h.2⟩⟩; obtain ⟨k, h1, h2⟩ := h; cases h1; exact ⟨trivial, h2⟩) hd).trans (by simp only [true_and])
theorem fe_115 : (9, 30, 9, 7, 527, 0) ∈ fldL := by decide +kernel
theorem g_115 {O : pO} {j n0 : Nat} {Q : pQ} {pc : Nat} {L : pL} {S : List pv} {n : Nat} {M : pM} {a : Nat} (hm : mO j = 9) (hd : decode (mB j) pc = .ok (.getfield 30, 3)) : J O j n0 Q pc L (vr (a + 1) :: S) n M = (ob n a = 9 ∧ J O j n0 Q (pc + 3) L (vr (M a 7).toNat :: S) n M) := J_get fe_115 (by rw [hm]) hd
theorem p_115 {O : pO} {j n0 : Nat} {Q : pQ} {pc : Nat} {L : pL} {S : List pv} {n : Nat} {M : pM} {a b : Nat} (hm : mO j = 9) (hi : (mY j).name = "<init>") (hd : decode (mB j) pc = .ok (.putfield 30, 3)) : J O j n0 Q pc L (vr b :: vr (a + 1) :: S) n M = (ob n a = 9 ∧ J O j n0 Q (pc + 3) L S n (st M a 7 (b : Int))) := (J_put (C := True) (x := (b : Int)) fe_115 (by rw [hm]) (Or.inr ⟨hi, hm.symm, rfl⟩) (fun y => by show (∃ k : Nat, vr b = vr k ∧ y = (k : Int)) ↔ _; refine ⟨fun h => ?_, fun h => ⟨b, rfl, h.2⟩⟩; obtain ⟨k, h1, h2⟩ := h; cases h1; exact ⟨trivial, h2⟩) hd).trans (by simp only [true_and])
theorem fe_116 : (9, 37, 9, 8, 528, 0) ∈ fldL := by decide +kernel
theorem g_116 {O : pO} {j n0 : Nat} {Q : pQ} {pc : Nat} {L : pL} {S : List pv} {n : Nat} {M : pM} {a : Nat} (hm : mO j = 9) (hd : decode (mB j) pc = .ok (.getfield 37, 3)) : J O j n0 Q pc L (vr (a + 1) :: S) n M = (ob n a = 9 ∧ J O j n0 Q (pc + 3) L (vi (M a 8) :: S) n M) := J_get fe_116 (by rw [hm]) hd
theorem p_116 {O : pO} {j n0 : Nat} {Q : pQ} {pc : Nat} {L : pL} {S : List pv} {n : Nat} {M : pM} {a : Nat} {x : Int} (hm : mO j = 9) (hd : decode (mB j) pc = .ok (.putfield 37, 3)) : J O j n0 Q pc L (vi x :: vr (a + 1) :: S) n M = (ob n a = 9 ∧ J O j n0 Q (pc + 3) L S n (st M a 8 x)) := (J_put (C := True) (x := x) fe_116 (by rw [hm]) (Or.inl rfl) (fun y => by show (vi x = vi y) ↔ _; simp [eq_comm]) hd).trans (by simp only [true_and])
theorem fe_117 : (8, 30, 9, 8, 529, 1) ∈ fldL := by decide +kernel
theorem g_117 {O : pO} {j n0 : Nat} {Q : pQ} {pc : Nat} {L : pL} {S : List pv} {n : Nat} {M : pM} {a : Nat} (hm : mO j = 8) (hd : decode (mB j) pc = .ok (.getfield 30, 3)) : J O j n0 Q pc L (vr (a + 1) :: S) n M = (ob n a = 9 ∧ J O j n0 Q (pc + 3) L (vi (M a 8) :: S) n M) := J_get fe_117 (by rw [hm]) hd
theorem p_117 {O : pO} {j n0 : Nat} {Q : pQ} {pc : Nat} {L : pL} {S : List pv} {n : Nat} {M : pM} {a : Nat} {x : Int} (hm : mO j = 8) (hd : decode (mB j) pc = .ok (.putfield 30, 3)) : J O j n0 Q pc L (vi x :: vr (a + 1) :: S) n M = (ob n a = 9 ∧ J O j n0 Q (pc + 3) L S n (st M a 8 x)) := (J_put (C := True) (x := x) fe_117 (by rw [hm]) (Or.inl rfl) (fun y => by show (vi x = vi y) ↔ _; simp [eq_comm]) hd).trans (by simp only [true_and])
theorem fe_118 : (11, 310, 9, 8, 530, 1) ∈ fldL := by decide +kernel
theorem g_118 {O : pO} {j n0 : Nat} {Q : pQ} {pc : Nat} {L : pL} {S : List pv} {n : Nat} {M : pM} {a : Nat} (hm : mO j = 11) (hd : decode (mB j) pc = .ok (.getfield 310, 3)) : J O j n0 Q pc L (vr (a + 1) :: S) n M = (ob n a = 9 ∧ J O j n0 Q (pc + 3) L (vi (M a 8) :: S) n M) := J_get fe_118 (by rw [hm]) hd
theorem p_118 {O : pO} {j n0 : Nat} {Q : pQ} {pc : Nat} {L : pL} {S : List pv} {n : Nat} {M : pM} {a : Nat} {x : Int} (hm : mO j = 11) (hd : decode (mB j) pc = .ok (.putfield 310, 3)) : J O j n0 Q pc L (vi x :: vr (a + 1) :: S) n M = (ob n a = 9 ∧ J O j n0 Q (pc + 3) L S n (st M a 8 x)) := (J_put (C := True) (x := x) fe_118 (by rw [hm]) (Or.inl rfl) (fun y => by show (vi x = vi y) ↔ _; simp [eq_comm]) hd).trans (by simp only [true_and])
theorem fe_119 : (9, 40, 9, 9, 531, 0) ∈ fldL := by decide +kernel
theorem g_119 {O : pO} {j n0 : Nat} {Q : pQ} {pc : Nat} {L : pL} {S : List pv} {n : Nat} {M : pM} {a : Nat} (hm : mO j = 9) (hd : decode (mB j) pc = .ok (.getfield 40, 3)) : J O j n0 Q pc L (vr (a + 1) :: S) n M = (ob n a = 9 ∧ J O j n0 Q (pc + 3) L (vi (M a 9) :: S) n M) := J_get fe_119 (by rw [hm]) hd
theorem p_119 {O : pO} {j n0 : Nat} {Q : pQ} {pc : Nat} {L : pL} {S : List pv} {n : Nat} {M : pM} {a : Nat} {x : Int} (hm : mO j = 9) (hd : decode (mB j) pc = .ok (.putfield 40, 3)) : J O j n0 Q pc L (vi x :: vr (a + 1) :: S) n M = (ob n a = 9 ∧ J O j n0 Q (pc + 3) L S n (st M a 9 x)) := (J_put (C := True) (x := x) fe_119 (by rw [hm]) (Or.inl rfl) (fun y => by show (vi x = vi y) ↔ _; simp [eq_comm]) hd).trans (by simp only [true_and])
theorem fe_120 : (11, 313, 9, 9, 532, 1) ∈ fldL := by decide +kernel
theorem g_120 {O : pO} {j n0 : Nat} {Q : pQ} {pc : Nat} {L : pL} {S : List pv} {n : Nat} {M : pM} {a : Nat} (hm : mO j = 11) (hd : decode (mB j) pc = .ok (.getfield 313, 3)) : J O j n0 Q pc L (vr (a + 1) :: S) n M = (ob n a = 9 ∧ J O j n0 Q (pc + 3) L (vi (M a 9) :: S) n M) := J_get fe_120 (by rw [hm]) hd
theorem p_120 {O : pO} {j n0 : Nat} {Q : pQ} {pc : Nat} {L : pL} {S : List pv} {n : Nat} {M : pM} {a : Nat} {x : Int} (hm : mO j = 11) (hd : decode (mB j) pc = .ok (.putfield 313, 3)) : J O j n0 Q pc L (vi x :: vr (a + 1) :: S) n M = (ob n a = 9 ∧ J O j n0 Q (pc + 3) L S n (st M a 9 x)) := (J_put (C := True) (x := x) fe_120 (by rw [hm]) (Or.inl rfl) (fun y => by show (vi x = vi y) ↔ _; simp [eq_comm]) hd).trans (by simp only [true_and])
theorem fe_121 : (8, 9, 8, 0, 560, 0) ∈ fldL := by decide +kernel
theorem g_121 {O : pO} {j n0 : Nat} {Q : pQ} {pc : Nat} {L : pL} {S : List pv} {n : Nat} {M : pM} {a : Nat} (hm : mO j = 8) (hd : decode (mB j) pc = .ok (.getfield 9, 3)) : J O j n0 Q pc L (vr (a + 1) :: S) n M = (ob n a = 8 ∧ J O j n0 Q (pc + 3) L (vr (M a 0).toNat :: S) n M) := J_get fe_121 (by rw [hm]) hd
theorem p_121 {O : pO} {j n0 : Nat} {Q : pQ} {pc : Nat} {L : pL} {S : List pv} {n : Nat} {M : pM} {a b : Nat} (hm : mO j = 8) (hi : (mY j).name = "<init>") (hd : decode (mB j) pc = .ok (.putfield 9, 3)) : J O j n0 Q pc L (vr b :: vr (a + 1) :: S) n M = (ob n a = 8 ∧ J O j n0 Q (pc + 3) L S n (st M a 0 (b : Int))) := (J_put (C := True) (x := (b : Int)) fe_121 (by rw [hm]) (Or.inr ⟨hi, hm.symm, rfl⟩) (fun y => by show (∃ k : Nat, vr b = vr k ∧ y = (k : Int)) ↔ _; refine ⟨fun h => ?_, fun h => ⟨b, rfl, h.2⟩⟩; obtain ⟨k, h1, h2⟩ := h; cases h1; exact ⟨trivial, h2⟩) hd).trans (by simp only [true_and])
theorem fe_122 : (8, 15, 8, 1, 561, 0) ∈ fldL := by decide +kernel
theorem g_122 {O : pO} {j n0 : Nat} {Q : pQ} {pc : Nat} {L : pL} {S : List pv} {n : Nat} {M : pM} {a : Nat} (hm : mO j = 8) (hd : decode (mB j) pc = .ok (.getfield 15, 3)) : J O j n0 Q pc L (vr (a + 1) :: S) n M = (ob n a = 8 ∧ J O j n0 Q (pc + 3) L (vr (M a 1).toNat :: S) n M) := J_get fe_122 (by rw [hm]) hd
theorem p_122 {O : pO} {j n0 : Nat} {Q : pQ} {pc : Nat} {L : pL} {S : List pv} {n : Nat} {M : pM} {a b : Nat} (hm : mO j = 8) (hi : (mY j).name = "<init>") (hd : decode (mB j) pc = .ok (.putfield 15, 3)) : J O j n0 Q pc L (vr b :: vr (a + 1) :: S) n M = (ob n a = 8 ∧ J O j n0 Q (pc + 3) L S n (st M a 1 (b : Int))) := (J_put (C := True) (x := (b : Int)) fe_122 (by rw [hm]) (Or.inr ⟨hi, hm.symm, rfl⟩) (fun y => by show (∃ k : Nat, vr b = vr k ∧ y = (k : Int)) ↔ _; refine ⟨fun h => ?_, fun h => ⟨b, rfl, h.2⟩⟩; obtain ⟨k, h1, h2⟩ := h; cases h1; exact ⟨trivial, h2⟩) hd).trans (by simp only [true_and])
theorem fe_123 : (8, 18, 8, 2, 562, 0) ∈ fldL := by decide +kernel
theorem g_123 {O : pO} {j n0 : Nat} {Q : pQ} {pc : Nat} {L : pL} {S : List pv} {n : Nat} {M : pM} {a : Nat} (hm : mO j = 8) (hd : decode (mB j) pc = .ok (.getfield 18, 3)) : J O j n0 Q pc L (vr (a + 1) :: S) n M = (ob n a = 8 ∧ J O j n0 Q (pc + 3) L (vr (M a 2).toNat :: S) n M) := J_get fe_123 (by rw [hm]) hd
theorem p_123 {O : pO} {j n0 : Nat} {Q : pQ} {pc : Nat} {L : pL} {S : List pv} {n : Nat} {M : pM} {a b : Nat} (hm : mO j = 8) (hi : (mY j).name = "<init>") (hd : decode (mB j) pc = .ok (.putfield 18, 3)) : J O j n0 Q pc L (vr b :: vr (a + 1) :: S) n M = (ob n a = 8 ∧ J O j n0 Q (pc + 3) L S n (st M a 2 (b : Int))) := (J_put (C := True) (x := (b : Int)) fe_123 (by rw [hm]) (Or.inr ⟨hi, hm.symm, rfl⟩) (fun y => by show (∃ k : Nat, vr b = vr k ∧ y = (k : Int)) ↔ _; refine ⟨fun h => ?_, fun h => ⟨b, rfl, h.2⟩⟩; obtain ⟨k, h1, h2⟩ := h; cases h1; exact ⟨trivial, h2⟩) hd).trans (by simp only [true_and])
theorem fe_124 : (8, 21, 8, 3, 563, 0) ∈ fldL := by decide +kernel
theorem g_124 {O : pO} {j n0 : Nat} {Q : pQ} {pc : Nat} {L : pL} {S : List pv} {n : Nat} {M : pM} {a : Nat} (hm : mO j = 8) (hd : decode (mB j) pc = .ok (.getfield 21, 3)) : J O j n0 Q pc L (vr (a + 1) :: S) n M = (ob n a = 8 ∧ J O j n0 Q (pc + 3) L (vr (M a 3).toNat :: S) n M) := J_get fe_124 (by rw [hm]) hd
theorem p_124 {O : pO} {j n0 : Nat} {Q : pQ} {pc : Nat} {L : pL} {S : List pv} {n : Nat} {M : pM} {a b : Nat} (hm : mO j = 8) (hi : (mY j).name = "<init>") (hd : decode (mB j) pc = .ok (.putfield 21, 3)) : J O j n0 Q pc L (vr b :: vr (a + 1) :: S) n M = (ob n a = 8 ∧ J O j n0 Q (pc + 3) L S n (st M a 3 (b : Int))) := (J_put (C := True) (x := (b : Int)) fe_124 (by rw [hm]) (Or.inr ⟨hi, hm.symm, rfl⟩) (fun y => by show (∃ k : Nat, vr b = vr k ∧ y = (k : Int)) ↔ _; refine ⟨fun h => ?_, fun h => ⟨b, rfl, h.2⟩⟩; obtain ⟨k, h1, h2⟩ := h; cases h1; exact ⟨trivial, h2⟩) hd).trans (by simp only [true_and])
theorem fe_125 : (8, 44, 8, 4, 564, 0) ∈ fldL := by decide +kernel
theorem g_125 {O : pO} {j n0 : Nat} {Q : pQ} {pc : Nat} {L : pL} {S : List pv} {n : Nat} {M : pM} {a : Nat} (hm : mO j = 8) (hd : decode (mB j) pc = .ok (.getfield 44, 3)) : J O j n0 Q pc L (vr (a + 1) :: S) n M = (ob n a = 8 ∧ J O j n0 Q (pc + 3) L (vi (M a 4) :: S) n M) := J_get fe_125 (by rw [hm]) hd
theorem p_125 {O : pO} {j n0 : Nat} {Q : pQ} {pc : Nat} {L : pL} {S : List pv} {n : Nat} {M : pM} {a : Nat} {x : Int} (hm : mO j = 8) (hd : decode (mB j) pc = .ok (.putfield 44, 3)) : J O j n0 Q pc L (vi x :: vr (a + 1) :: S) n M = (ob n a = 8 ∧ J O j n0 Q (pc + 3) L S n (st M a 4 x)) := (J_put (C := True) (x := x) fe_125 (by rw [hm]) (Or.inl rfl) (fun y => by show (vi x = vi y) ↔ _; simp [eq_comm]) hd).trans (by simp only [true_and])
theorem fe_126 : (11, 255, 8, 4, 565, 1) ∈ fldL := by decide +kernel
theorem g_126 {O : pO} {j n0 : Nat} {Q : pQ} {pc : Nat} {L : pL} {S : List pv} {n : Nat} {M : pM} {a : Nat} (hm : mO j = 11) (hd : decode (mB j) pc = .ok (.getfield 255, 3)) : J O j n0 Q pc L (vr (a + 1) :: S) n M = (ob n a = 8 ∧ J O j n0 Q (pc + 3) L (vi (M a 4) :: S) n M) := J_get fe_126 (by rw [hm]) hd
theorem p_126 {O : pO} {j n0 : Nat} {Q : pQ} {pc : Nat} {L : pL} {S : List pv} {n : Nat} {M : pM} {a : Nat} {x : Int} (hm : mO j = 11) (hd : decode (mB j) pc = .ok (.putfield 255, 3)) : J O j n0 Q pc L (vi x :: vr (a + 1) :: S) n M = (ob n a = 8 ∧ J O j n0 Q (pc + 3) L S n (st M a 4 x)) := (J_put (C := True) (x := x) fe_126 (by rw [hm]) (Or.inl rfl) (fun y => by show (vi x = vi y) ↔ _; simp [eq_comm]) hd).trans (by simp only [true_and])
theorem fe_127 : (6, 51, 8, 5, 566, 1) ∈ fldL := by decide +kernel
theorem g_127 {O : pO} {j n0 : Nat} {Q : pQ} {pc : Nat} {L : pL} {S : List pv} {n : Nat} {M : pM} {a : Nat} (hm : mO j = 6) (hd : decode (mB j) pc = .ok (.getfield 51, 3)) : J O j n0 Q pc L (vr (a + 1) :: S) n M = (ob n a = 8 ∧ J O j n0 Q (pc + 3) L (vi (M a 5) :: S) n M) := J_get fe_127 (by rw [hm]) hd
theorem p_127 {O : pO} {j n0 : Nat} {Q : pQ} {pc : Nat} {L : pL} {S : List pv} {n : Nat} {M : pM} {a : Nat} {x : Int} (hm : mO j = 6) (hd : decode (mB j) pc = .ok (.putfield 51, 3)) : J O j n0 Q pc L (vi x :: vr (a + 1) :: S) n M = (ob n a = 8 ∧ J O j n0 Q (pc + 3) L S n (st M a 5 x)) := (J_put (C := True) (x := x) fe_127 (by rw [hm]) (Or.inl rfl) (fun y => by show (vi x = vi y) ↔ _; simp [eq_comm]) hd).trans (by simp only [true_and])
theorem fe_128 : (8, 62, 8, 5, 567, 0) ∈ fldL := by decide +kernel
theorem g_128 {O : pO} {j n0 : Nat} {Q : pQ} {pc : Nat} {L : pL} {S : List pv} {n : Nat} {M : pM} {a : Nat} (hm : mO j = 8) (hd : decode (mB j) pc = .ok (.getfield 62, 3)) : J O j n0 Q pc L (vr (a + 1) :: S) n M = (ob n a = 8 ∧ J O j n0 Q (pc + 3) L (vi (M a 5) :: S) n M) := J_get fe_128 (by rw [hm]) hd
theorem p_128 {O : pO} {j n0 : Nat} {Q : pQ} {pc : Nat} {L : pL} {S : List pv} {n : Nat} {M : pM} {a : Nat} {x : Int} (hm : mO j = 8) (hd : decode (mB j) pc = .ok (.putfield 62, 3)) : J O j n0 Q pc L (vi x :: vr (a + 1) :: S) n M = (ob n a = 8 ∧ J O j n0 Q (pc + 3) L S n (st M a 5 x)) := (J_put (C := True) (x := x) fe_128 (by rw [hm]) (Or.inl rfl) (fun y => by show (vi x = vi y) ↔ _; simp [eq_comm]) hd).trans (by simp only [true_and])
theorem fe_129 : (11, 236, 8, 5, 568, 1) ∈ fldL := by decide +kernel
theorem g_129 {O : pO} {j n0 : Nat} {Q : pQ} {pc : Nat} {L : pL} {S : List pv} {n : Nat} {M : pM} {a : Nat} (hm : mO j = 11) (hd : decode (mB j) pc = .ok (.getfield 236, 3)) : J O j n0 Q pc L (vr (a + 1) :: S) n M = (ob n a = 8 ∧ J O j n0 Q (pc + 3) L (vi (M a 5) :: S) n M) := J_get fe_129 (by rw [hm]) hd
theorem p_129 {O : pO} {j n0 : Nat} {Q : pQ} {pc : Nat} {L : pL} {S : List pv} {n : Nat} {M : pM} {a : Nat} {x : Int} (hm : mO j = 11) (hd : decode (mB j) pc = .ok (.putfield 236, 3)) : J O j n0 Q pc L (vi x :: vr (a + 1) :: S) n M = (ob n a = 8 ∧ J O j n0 Q (pc + 3) L S n (st M a 5 x)) := (J_put (C := True) (x := x) fe_129 (by rw [hm]) (Or.inl rfl) (fun y => by show (vi x = vi y) ↔ _; simp [eq_comm]) hd).trans (by simp only [true_and])
theorem fe_130 : (8, 65, 8, 6, 569, 0) ∈ fldL := by decide +kernel
theorem g_130 {O : pO} {j n0 : Nat} {Q : pQ} {pc : Nat} {L : pL} {S : List pv} {n : Nat} {M : pM} {a : Nat} (hm : mO j = 8) (hd : decode (mB j) pc = .ok (.getfield 65, 3)) : J O j n0 Q pc L (vr (a + 1) :: S) n M = (ob n a = 8 ∧ J O j n0 Q (pc + 3) L (vi (M a 6) :: S) n M) := J_get fe_130 (by rw [hm]) hd
theorem p_130 {O : pO} {j n0 : Nat} {Q : pQ} {pc : Nat} {L : pL} {S : List pv} {n : Nat} {M : pM} {a : Nat} {x : Int} (hm : mO j = 8) (hd : decode (mB j) pc = .ok (.putfield 65, 3)) : J O j n0 Q pc L (vi x :: vr (a + 1) :: S) n M = (ob n a = 8 ∧ J O j n0 Q (pc + 3) L S n (st M a 6 x)) := (J_put (C := True) (x := x) fe_130 (by rw [hm]) (Or.inl rfl) (fun y => by show (vi x = vi y) ↔ _; simp [eq_comm]) hd).trans (by simp only [true_and])
theorem fe_131 : (6, 9, 6, 0, 591, 0) ∈ fldL := by decide +kernel
theorem g_131 {O : pO} {j n0 : Nat} {Q : pQ} {pc : Nat} {L : pL} {S : List pv} {n : Nat} {M : pM} {a : Nat} (hm : mO j = 6) (hd : decode (mB j) pc = .ok (.getfield 9, 3)) : J O j n0 Q pc L (vr (a + 1) :: S) n M = (ob n a = 6 ∧ J O j n0 Q (pc + 3) L (vr (M a 0).toNat :: S) n M) := J_get fe_131 (by rw [hm]) hd
theorem p_131 {O : pO} {j n0 : Nat} {Q : pQ} {pc : Nat} {L : pL} {S : List pv} {n : Nat} {M : pM} {a b : Nat} (hm : mO j = 6) (hi : (mY j).name = "<init>") (hd : decode (mB j) pc = .ok (.putfield 9, 3)) : J O j n0 Q pc L (vr b :: vr (a + 1) :: S) n M = (ob n a = 6 ∧ J O j n0 Q (pc + 3) L S n (st M a 0 (b : Int))) := (J_put (C := True) (x := (b : Int)) fe_131 (by rw [hm]) (Or.inr ⟨hi, hm.symm, rfl⟩) (fun y => by show (∃ k : Nat, vr b = vr k ∧ y = (k : Int)) ↔ _; refine ⟨fun h => ?_, fun h => ⟨b, rfl, h.2⟩⟩; obtain ⟨k, h1, h2⟩ := h; cases h1; exact ⟨trivial, h2⟩) hd).trans (by simp only [true_and])
theorem fe_132 : (10, 9, 10, 0, 601, 0) ∈ fldL := by decide +kernel
theorem g_132 {O : pO} {j n0 : Nat} {Q : pQ} {pc : Nat} {L : pL} {S : List pv} {n : Nat} {M : pM} {a : Nat} (hm : mO j = 10) (hd : decode (mB j) pc = .ok (.getfield 9, 3)) : J O j n0 Q pc L (vr (a + 1) :: S) n M = (ob n a = 10 ∧ J O j n0 Q (pc + 3) L (vr (M a 0).toNat :: S) n M) := J_get fe_132 (by rw [hm]) hd
theorem p_132 {O : pO} {j n0 : Nat} {Q : pQ} {pc : Nat} {L : pL} {S : List pv} {n : Nat} {M : pM} {a b : Nat} (hm : mO j = 10) (hi : (mY j).name = "<init>") (hd : decode (mB j) pc = .ok (.putfield 9, 3)) : J O j n0 Q pc L (vr b :: vr (a + 1) :: S) n M = (ob n a = 10 ∧ J O j n0 Q (pc + 3) L S n (st M a 0 (b : Int))) := (J_put (C := True) (x := (b : Int)) fe_132 (by rw [hm]) (Or.inr ⟨hi, hm.symm, rfl⟩) (fun y => by show (∃ k : Nat, vr b = vr k ∧ y = (k : Int)) ↔ _; refine ⟨fun h => ?_, fun h => ⟨b, rfl, h.2⟩⟩; obtain ⟨k, h1, h2⟩ := h; cases h1; exact ⟨trivial, h2⟩) hd).trans (by simp only [true_and])
theorem fe_133 : (10, 27, 10, 1, 602, 0) ∈ fldL := by decide +kernel
theorem g_133 {O : pO} {j n0 : Nat} {Q : pQ} {pc : Nat} {L : pL} {S : List pv} {n : Nat} {M : pM} {a : Nat} (hm : mO j = 10) (hd : decode (mB j) pc = .ok (.getfield 27, 3)) : J O j n0 Q pc L (vr (a + 1) :: S) n M = (ob n a = 10 ∧ J O j n0 Q (pc + 3) L (vi (M a 1) :: S) n M) := J_get fe_133 (by rw [hm]) hd
theorem p_133 {O : pO} {j n0 : Nat} {Q : pQ} {pc : Nat} {L : pL} {S : List pv} {n : Nat} {M : pM} {a : Nat} {x : Int} (hm : mO j = 10) (hd : decode (mB j) pc = .ok (.putfield 27, 3)) : J O j n0 Q pc L (vi x :: vr (a + 1) :: S) n M = (ob n a = 10 ∧ J O j n0 Q (pc + 3) L S n (st M a 1 x)) := (J_put (C := True) (x := x) fe_133 (by rw [hm]) (Or.inl rfl) (fun y => by show (vi x = vi y) ↔ _; simp [eq_comm]) hd).trans (by simp only [true_and])
theorem fe_134 : (11, 287, 10, 1, 603, 1) ∈ fldL := by decide +kernel
theorem g_134 {O : pO} {j n0 : Nat} {Q : pQ} {pc : Nat} {L : pL} {S : List pv} {n : Nat} {M : pM} {a : Nat} (hm : mO j = 11) (hd : decode (mB j) pc = .ok (.getfield 287, 3)) : J O j n0 Q pc L (vr (a + 1) :: S) n M = (ob n a = 10 ∧ J O j n0 Q (pc + 3) L (vi (M a 1) :: S) n M) := J_get fe_134 (by rw [hm]) hd
theorem p_134 {O : pO} {j n0 : Nat} {Q : pQ} {pc : Nat} {L : pL} {S : List pv} {n : Nat} {M : pM} {a : Nat} {x : Int} (hm : mO j = 11) (hd : decode (mB j) pc = .ok (.putfield 287, 3)) : J O j n0 Q pc L (vi x :: vr (a + 1) :: S) n M = (ob n a = 10 ∧ J O j n0 Q (pc + 3) L S n (st M a 1 x)) := (J_put (C := True) (x := x) fe_134 (by rw [hm]) (Or.inl rfl) (fun y => by show (vi x = vi y) ↔ _; simp [eq_comm]) hd).trans (by simp only [true_and])
theorem fe_135 : (10, 15, 10, 2, 604, 0) ∈ fldL := by decide +kernel
theorem g_135 {O : pO} {j n0 : Nat} {Q : pQ} {pc : Nat} {L : pL} {S : List pv} {n : Nat} {M : pM} {a : Nat} (hm : mO j = 10) (hd : decode (mB j) pc = .ok (.getfield 15, 3)) : J O j n0 Q pc L (vr (a + 1) :: S) n M = (ob n a = 10 ∧ J O j n0 Q (pc + 3) L (vr (M a 2).toNat :: S) n M) := J_get fe_135 (by rw [hm]) hd
theorem p_135 {O : pO} {j n0 : Nat} {Q : pQ} {pc : Nat} {L : pL} {S : List pv} {n : Nat} {M : pM} {a b : Nat} (hm : mO j = 10) (hi : (mY j).name = "<init>") (hd : decode (mB j) pc = .ok (.putfield 15, 3)) : J O j n0 Q pc L (vr b :: vr (a + 1) :: S) n M = (ob n a = 10 ∧ J O j n0 Q (pc + 3) L S n (st M a 2 (b : Int))) := (J_put (C := True) (x := (b : Int)) fe_135 (by rw [hm]) (Or.inr ⟨hi, hm.symm, rfl⟩) (fun y => by show (∃ k : Nat, vr b = vr k ∧ y = (k : Int)) ↔ _; refine ⟨fun h => ?_, fun h => ⟨b, rfl, h.2⟩⟩; obtain ⟨k, h1, h2⟩ := h; cases h1; exact ⟨trivial, h2⟩) hd).trans (by simp only [true_and])
theorem fe_136 : (10, 18, 10, 3, 605, 0) ∈ fldL := by decide +kernel
theorem g_136 {O : pO} {j n0 : Nat} {Q : pQ} {pc : Nat} {L : pL} {S : List pv} {n : Nat} {M : pM} {a : Nat} (hm : mO j = 10) (hd : decode (mB j) pc = .ok (.getfield 18, 3)) : J O j n0 Q pc L (vr (a + 1) :: S) n M = (ob n a = 10 ∧ J O j n0 Q (pc + 3) L (vr (M a 3).toNat :: S) n M) := J_get fe_136 (by rw [hm]) hd
theorem p_136 {O : pO} {j n0 : Nat} {Q : pQ} {pc : Nat} {L : pL} {S : List pv} {n : Nat} {M : pM} {a b : Nat} (hm : mO j = 10) (hi : (mY j).name = "<init>") (hd : decode (mB j) pc = .ok (.putfield 18, 3)) : J O j n0 Q pc L (vr b :: vr (a + 1) :: S) n M = (ob n a = 10 ∧ J O j n0 Q (pc + 3) L S n (st M a 3 (b : Int))) := (J_put (C := True) (x := (b : Int)) fe_136 (by rw [hm]) (Or.inr ⟨hi, hm.symm, rfl⟩) (fun y => by show (∃ k : Nat, vr b = vr k ∧ y = (k : Int)) ↔ _; refine ⟨fun h => ?_, fun h => ⟨b, rfl, h.2⟩⟩; obtain ⟨k, h1, h2⟩ := h; cases h1; exact ⟨trivial, h2⟩) hd).trans (by simp only [true_and])
theorem fe_137 : (10, 21, 10, 4, 606, 0) ∈ fldL := by decide +kernel
theorem g_137 {O : pO} {j n0 : Nat} {Q : pQ} {pc : Nat} {L : pL} {S : List pv} {n : Nat} {M : pM} {a : Nat} (hm : mO j = 10) (hd : decode (mB j) pc = .ok (.getfield 21, 3)) : J O j n0 Q pc L (vr (a + 1) :: S) n M = (ob n a = 10 ∧ J O j n0 Q (pc + 3) L (vr (M a 4).toNat :: S) n M) := J_get fe_137 (by rw [hm]) hd
theorem p_137 {O : pO} {j n0 : Nat} {Q : pQ} {pc : Nat} {L : pL} {S : List pv} {n : Nat} {M : pM} {a b : Nat} (hm : mO j = 10) (hi : (mY j).name = "<init>") (hd : decode (mB j) pc = .ok (.putfield 21, 3)) : J O j n0 Q pc L (vr b :: vr (a + 1) :: S) n M = (ob n a = 10 ∧ J O j n0 Q (pc + 3) L S n (st M a 4 (b : Int))) := (J_put (C := True) (x := (b : Int)) fe_137 (by rw [hm]) (Or.inr ⟨hi, hm.symm, rfl⟩) (fun y => by show (∃ k : Nat, vr b = vr k ∧ y = (k : Int)) ↔ _; refine ⟨fun h => ?_, fun h => ⟨b, rfl, h.2⟩⟩; obtain ⟨k, h1, h2⟩ := h; cases h1; exact ⟨trivial, h2⟩) hd).trans (by simp only [true_and])
theorem fe_138 : (10, 24, 10, 5, 607, 0) ∈ fldL := by decide +kernel
theorem g_138 {O : pO} {j n0 : Nat} {Q : pQ} {pc : Nat} {L : pL} {S : List pv} {n : Nat} {M : pM} {a : Nat} (hm : mO j = 10) (hd : decode (mB j) pc = .ok (.getfield 24, 3)) : J O j n0 Q pc L (vr (a + 1) :: S) n M = (ob n a = 10 ∧ J O j n0 Q (pc + 3) L (vr (M a 5).toNat :: S) n M) := J_get fe_138 (by rw [hm]) hd
theorem p_138 {O : pO} {j n0 : Nat} {Q : pQ} {pc : Nat} {L : pL} {S : List pv} {n : Nat} {M : pM} {a b : Nat} (hm : mO j = 10) (hi : (mY j).name = "<init>") (hd : decode (mB j) pc = .ok (.putfield 24, 3)) : J O j n0 Q pc L (vr b :: vr (a + 1) :: S) n M = (ob n a = 10 ∧ J O j n0 Q (pc + 3) L S n (st M a 5 (b : Int))) := (J_put (C := True) (x := (b : Int)) fe_138 (by rw [hm]) (Or.inr ⟨hi, hm.symm, rfl⟩) (fun y => by show (∃ k : Nat, vr b = vr k ∧ y = (k : Int)) ↔ _; refine ⟨fun h => ?_, fun h => ⟨b, rfl, h.2⟩⟩; obtain ⟨k, h1, h2⟩ := h; cases h1; exact ⟨trivial, h2⟩) hd).trans (by simp only [true_and])
theorem fe_139 : (11, 288, 10, 5, 608, 1) ∈ fldL := by decide +kernel
theorem g_139 {O : pO} {j n0 : Nat} {Q : pQ} {pc : Nat} {L : pL} {S : List pv} {n : Nat} {M : pM} {a : Nat} (hm : mO j = 11) (hd : decode (mB j) pc = .ok (.getfield 288, 3)) : J O j n0 Q pc L (vr (a + 1) :: S) n M = (ob n a = 10 ∧ J O j n0 Q (pc + 3) L (vr (M a 5).toNat :: S) n M) := J_get fe_139 (by rw [hm]) hd
theorem fe_140 : (10, 50, 10, 6, 609, 0) ∈ fldL := by decide +kernel
theorem g_140 {O : pO} {j n0 : Nat} {Q : pQ} {pc : Nat} {L : pL} {S : List pv} {n : Nat} {M : pM} {a : Nat} (hm : mO j = 10) (hd : decode (mB j) pc = .ok (.getfield 50, 3)) : J O j n0 Q pc L (vr (a + 1) :: S) n M = (ob n a = 10 ∧ J O j n0 Q (pc + 3) L (vi (M a 6) :: S) n M) := J_get fe_140 (by rw [hm]) hd
theorem p_140 {O : pO} {j n0 : Nat} {Q : pQ} {pc : Nat} {L : pL} {S : List pv} {n : Nat} {M : pM} {a : Nat} {x : Int} (hm : mO j = 10) (hd : decode (mB j) pc = .ok (.putfield 50, 3)) : J O j n0 Q pc L (vi x :: vr (a + 1) :: S) n M = (ob n a = 10 ∧ J O j n0 Q (pc + 3) L S n (st M a 6 x)) := (J_put (C := True) (x := x) fe_140 (by rw [hm]) (Or.inl rfl) (fun y => by show (vi x = vi y) ↔ _; simp [eq_comm]) hd).trans (by simp only [true_and])
theorem fe_141 : (11, 284, 10, 6, 610, 1) ∈ fldL := by decide +kernel
theorem g_141 {O : pO} {j n0 : Nat} {Q : pQ} {pc : Nat} {L : pL} {S : List pv} {n : Nat} {M : pM} {a : Nat} (hm : mO j = 11) (hd : decode (mB j) pc = .ok (.getfield 284, 3)) : J O j n0 Q pc L (vr (a + 1) :: S) n M = (ob n a = 10 ∧ J O j n0 Q (pc + 3) L (vi (M a 6) :: S) n M) := J_get fe_141 (by rw [hm]) hd
theorem p_141 {O : pO} {j n0 : Nat} {Q : pQ} {pc : Nat} {L : pL} {S : List pv} {n : Nat} {M : pM} {a : Nat} {x : Int} (hm : mO j = 11) (hd : decode (mB j) pc = .ok (.putfield 284, 3)) : J O j n0 Q pc L (vi x :: vr (a + 1) :: S) n M = (ob n a = 10 ∧ J O j n0 Q (pc + 3) L S n (st M a 6 x)) := (J_put (C := True) (x := x) fe_141 (by rw [hm]) (Or.inl rfl) (fun y => by show (vi x = vi y) ↔ _; simp [eq_comm]) hd).trans (by simp only [true_and])
theorem fe_142 : (11, 9, 11, 0, 626, 0) ∈ fldL := by decide +kernel
theorem g_142 {O : pO} {j n0 : Nat} {Q : pQ} {pc : Nat} {L : pL} {S : List pv} {n : Nat} {M : pM} {a : Nat} (hm : mO j = 11) (hd : decode (mB j) pc = .ok (.getfield 9, 3)) : J O j n0 Q pc L (vr (a + 1) :: S) n M = (ob n a = 11 ∧ J O j n0 Q (pc + 3) L (vr (M a 0).toNat :: S) n M) := J_get fe_142 (by rw [hm]) hd
theorem p_142 {O : pO} {j n0 : Nat} {Q : pQ} {pc : Nat} {L : pL} {S : List pv} {n : Nat} {M : pM} {a b : Nat} (hm : mO j = 11) (hi : (mY j).name = "<init>") (hd : decode (mB j) pc = .ok (.putfield 9, 3)) : J O j n0 Q pc L (vr b :: vr (a + 1) :: S) n M = (ob n a = 11 ∧ J O j n0 Q (pc + 3) L S n (st M a 0 (b : Int))) := (J_put (C := True) (x := (b : Int)) fe_142 (by rw [hm]) (Or.inr ⟨hi, hm.symm, rfl⟩) (fun y => by show (∃ k : Nat, vr b = vr k ∧ y = (k : Int)) ↔ _; refine ⟨fun h => ?_, fun h => ⟨b, rfl, h.2⟩⟩; obtain ⟨k, h1, h2⟩ := h; cases h1; exact ⟨trivial, h2⟩) hd).trans (by simp only [true_and])
theorem fe_143 : (11, 105, 11, 1, 627, 0) ∈ fldL := by decide +kernel
theorem g_143 {O : pO} {j n0 : Nat} {Q : pQ} {pc : Nat} {L : pL} {S : List pv} {n : Nat} {M : pM} {a : Nat} (hm : mO j = 11) (hd : decode (mB j) pc = .ok (.getfield 105, 3)) : J O j n0 Q pc L (vr (a + 1) :: S) n M = (ob n a = 11 ∧ J O j n0 Q (pc + 3) L (vi (M a 1) :: S) n M) := J_get fe_143 (by rw [hm]) hd
theorem p_143 {O : pO} {j n0 : Nat} {Q : pQ} {pc : Nat} {L : pL} {S : List pv} {n : Nat} {M : pM} {a : Nat} {x : Int} (hm : mO j = 11) (hd : decode (mB j) pc = .ok (.putfield 105, 3)) : J O j n0 Q pc L (vi x :: vr (a + 1) :: S) n M = (ob n a = 11 ∧ J O j n0 Q (pc + 3) L S n (st M a 1 x)) := (J_put (C := True) (x := x) fe_143 (by rw [hm]) (Or.inl rfl) (fun y => by show (vi x = vi y) ↔ _; simp [eq_comm]) hd).trans (by simp only [true_and])
theorem fe_144 : (11, 18, 11, 2, 628, 0) ∈ fldL := by decide +kernel
theorem g_144 {O : pO} {j n0 : Nat} {Q : pQ} {pc : Nat} {L : pL} {S : List pv} {n : Nat} {M : pM} {a : Nat} (hm : mO j = 11) (hd : decode (mB j) pc = .ok (.getfield 18, 3)) : J O j n0 Q pc L (vr (a + 1) :: S) n M = (ob n a = 11 ∧ J O j n0 Q (pc + 3) L (vr (M a 2).toNat :: S) n M) := J_get fe_144 (by rw [hm]) hd
theorem p_144 {O : pO} {j n0 : Nat} {Q : pQ} {pc : Nat} {L : pL} {S : List pv} {n : Nat} {M : pM} {a b : Nat} (hm : mO j = 11) (hi : (mY j).name = "<init>") (hd : decode (mB j) pc = .ok (.putfield 18, 3)) : J O j n0 Q pc L (vr b :: vr (a + 1) :: S) n M = (ob n a = 11 ∧ J O j n0 Q (pc + 3) L S n (st M a 2 (b : Int))) := (J_put (C := True) (x := (b : Int)) fe_144 (by rw [hm]) (Or.inr ⟨hi, hm.symm, rfl⟩) (fun y => by show (∃ k : Nat, vr b = vr k ∧ y = (k : Int)) ↔ _; refine ⟨fun h => ?_, fun h => ⟨b, rfl, h.2⟩⟩; obtain ⟨k, h1, h2⟩ := h; cases h1; exact ⟨trivial, h2⟩) hd).trans (by simp only [true_and])
theorem fe_145 : (11, 25, 11, 3, 629, 0) ∈ fldL := by decide +kernel
theorem g_145 {O : pO} {j n0 : Nat} {Q : pQ} {pc : Nat} {L : pL} {S : List pv} {n : Nat} {M : pM} {a : Nat} (hm : mO j = 11) (hd : decode (mB j) pc = .ok (.getfield 25, 3)) : J O j n0 Q pc L (vr (a + 1) :: S) n M = (ob n a = 11 ∧ J O j n0 Q (pc + 3) L (vr (M a 3).toNat :: S) n M) := J_get fe_145 (by rw [hm]) hd
theorem p_145 {O : pO} {j n0 : Nat} {Q : pQ} {pc : Nat} {L : pL} {S : List pv} {n : Nat} {M : pM} {a b : Nat} (hm : mO j = 11) (hd : decode (mB j) pc = .ok (.putfield 25, 3)) : J O j n0 Q pc L (vr b :: vr (a + 1) :: S) n M = (ob n a = 11 ∧ J O j n0 Q (pc + 3) L S n (st M a 3 (b : Int))) := (J_put (C := True) (x := (b : Int)) fe_145 (by rw [hm]) (Or.inl rfl) (fun y => by show (∃ k : Nat, vr b = vr k ∧ y = (k : Int)) ↔ _; refine ⟨fun h => ?_, fun h => ⟨b, rfl, h.2⟩⟩; obtain ⟨k, h1, h2⟩ := h; cases h1; exact ⟨trivial, h2⟩) hd).trans (by simp only [true_and])
theorem fe_146 : (11, 29, 11, 4, 630, 0) ∈ fldL := by decide +kernel
theorem g_146 {O : pO} {j n0 : Nat} {Q : pQ} {pc : Nat} {L : pL} {S : List pv} {n : Nat} {M : pM} {a : Nat} (hm : mO j = 11) (hd : decode (mB j) pc = .ok (.getfield 29, 3)) : J O j n0 Q pc L (vr (a + 1) :: S) n M = (ob n a = 11 ∧ J O j n0 Q (pc + 3) L (vr (M a 4).toNat :: S) n M) := J_get fe_146 (by rw [hm]) hd
theorem p_146 {O : pO} {j n0 : Nat} {Q : pQ} {pc : Nat} {L : pL} {S : List pv} {n : Nat} {M : pM} {a b : Nat} (hm : mO j = 11) (hd : decode (mB j) pc = .ok (.putfield 29, 3)) : J O j n0 Q pc L (vr b :: vr (a + 1) :: S) n M = (ob n a = 11 ∧ J O j n0 Q (pc + 3) L S n (st M a 4 (b : Int))) := (J_put (C := True) (x := (b : Int)) fe_146 (by rw [hm]) (Or.inl rfl) (fun y => by show (∃ k : Nat, vr b = vr k ∧ y = (k : Int)) ↔ _; refine ⟨fun h => ?_, fun h => ⟨b, rfl, h.2⟩⟩; obtain ⟨k, h1, h2⟩ := h; cases h1; exact ⟨trivial, h2⟩) hd).trans (by simp only [true_and])
theorem fe_147 : (11, 37, 11, 5, 631, 0) ∈ fldL := by decide +kernel
theorem g_147 {O : pO} {j n0 : Nat} {Q : pQ} {pc : Nat} {L : pL} {S : List pv} {n : Nat} {M : pM} {a : Nat} (hm : mO j = 11) (hd : decode (mB j) pc = .ok (.getfield 37, 3)) : J O j n0 Q pc L (vr (a + 1) :: S) n M = (ob n a = 11 ∧ J O j n0 Q (pc + 3) L (vr (M a 5).toNat :: S) n M) := J_get fe_147 (by rw [hm]) hd
theorem p_147 {O : pO} {j n0 : Nat} {Q : pQ} {pc : Nat} {L : pL} {S : List pv} {n : Nat} {M : pM} {a b : Nat} (hm : mO j = 11) (hi : (mY j).name = "<init>") (hd : decode (mB j) pc = .ok (.putfield 37, 3)) : J O j n0 Q pc L (vr b :: vr (a + 1) :: S) n M = (ob n a = 11 ∧ J O j n0 Q (pc + 3) L S n (st M a 5 (b : Int))) := (J_put (C := True) (x := (b : Int)) fe_147 (by rw [hm]) (Or.inr ⟨hi, hm.symm, rfl⟩) (fun y => by show (∃ k : Nat, vr b = vr k ∧ y = (k : Int)) ↔ _; refine ⟨fun h => ?_, fun h => ⟨b, rfl, h.2⟩⟩; obtain ⟨k, h1, h2⟩ := h; cases h1; exact ⟨trivial, h2⟩) hd).trans (by simp only [true_and])
theorem fe_148 : (11, 46, 11, 6, 632, 0) ∈ fldL := by decide +kernel
theorem g_148 {O : pO} {j n0 : Nat} {Q : pQ} {pc : Nat} {L : pL} {S : List pv} {n : Nat} {M : pM} {a : Nat} (hm : mO j = 11) (hd : decode (mB j) pc = .ok (.getfield 46, 3)) : J O j n0 Q pc L (vr (a + 1) :: S) n M = (ob n a = 11 ∧ J O j n0 Q (pc + 3) L (vr (M a 6).toNat :: S) n M) := J_get fe_148 (by rw [hm]) hd
theorem p_148 {O : pO} {j n0 : Nat} {Q : pQ} {pc : Nat} {L : pL} {S : List pv} {n : Nat} {M : pM} {a b : Nat} (hm : mO j = 11) (hi : (mY j).name = "<init>") (hd : decode (mB j) pc = .ok (.putfield 46, 3)) : J O j n0 Q pc L (vr b :: vr (a + 1) :: S) n M = (ob n a = 11 ∧ J O j n0 Q (pc + 3) L S n (st M a 6 (b : Int))) := (J_put (C := True) (x := (b : Int)) fe_148 (by rw [hm]) (Or.inr ⟨hi, hm.symm, rfl⟩) (fun y => by show (∃ k : Nat, vr b = vr k ∧ y = (k : Int)) ↔ _; refine ⟨fun h => ?_, fun h => ⟨b, rfl, h.2⟩⟩; obtain ⟨k, h1, h2⟩ := h; cases h1; exact ⟨trivial, h2⟩) hd).trans (by simp only [true_and])
theorem fe_149 : (11, 134, 11, 7, 633, 0) ∈ fldL := by decide +kernel
theorem g_149 {O : pO} {j n0 : Nat} {Q : pQ} {pc : Nat} {L : pL} {S : List pv} {n : Nat} {M : pM} {a : Nat} (hm : mO j = 11) (hd : decode (mB j) pc = .ok (.getfield 134, 3)) : J O j n0 Q pc L (vr (a + 1) :: S) n M = (ob n a = 11 ∧ J O j n0 Q (pc + 3) L (vi (M a 7) :: S) n M) := J_get fe_149 (by rw [hm]) hd
theorem p_149 {O : pO} {j n0 : Nat} {Q : pQ} {pc : Nat} {L : pL} {S : List pv} {n : Nat} {M : pM} {a : Nat} {x : Int} (hm : mO j = 11) (hd : decode (mB j) pc = .ok (.putfield 134, 3)) : J O j n0 Q pc L (vi x :: vr (a + 1) :: S) n M = (ob n a = 11 ∧ J O j n0 Q (pc + 3) L S n (st M a 7 x)) := (J_put (C := True) (x := x) fe_149 (by rw [hm]) (Or.inl rfl) (fun y => by show (vi x = vi y) ↔ _; simp [eq_comm]) hd).trans (by simp only [true_and])
theorem fe_150 : (11, 50, 11, 8, 634, 0) ∈ fldL := by decide +kernel
theorem g_150 {O : pO} {j n0 : Nat} {Q : pQ} {pc : Nat} {L : pL} {S : List pv} {n : Nat} {M : pM} {a : Nat} (hm : mO j = 11) (hd : decode (mB j) pc = .ok (.getfield 50, 3)) : J O j n0 Q pc L (vr (a + 1) :: S) n M = (ob n a = 11 ∧ J O j n0 Q (pc + 3) L (vi (M a 8) :: S) n M) := J_get fe_150 (by rw [hm]) hd
theorem p_150 {O : pO} {j n0 : Nat} {Q : pQ} {pc : Nat} {L : pL} {S : List pv} {n : Nat} {M : pM} {a : Nat} {x : Int} (hm : mO j = 11) (hd : decode (mB j) pc = .ok (.putfield 50, 3)) : J O j n0 Q pc L (vi x :: vr (a + 1) :: S) n M = (ob n a = 11 ∧ J O j n0 Q (pc + 3) L S n (st M a 8 x)) := (J_put (C := True) (x := x) fe_150 (by rw [hm]) (Or.inl rfl) (fun y => by show (vi x = vi y) ↔ _; simp [eq_comm]) hd).trans (by simp only [true_and])
theorem fe_151 : (11, 57, 11, 9, 635, 0) ∈ fldL := by decide +kernel
theorem g_151 {O : pO} {j n0 : Nat} {Q : pQ} {pc : Nat} {L : pL} {S : List pv} {n : Nat} {M : pM} {a : Nat} (hm : mO j = 11) (hd : decode (mB j) pc = .ok (.getfield 57, 3)) : J O j n0 Q pc L (vr (a + 1) :: S) n M = (ob n a = 11 ∧ J O j n0 Q (pc + 3) L (vr (M a 9).toNat :: S) n M) := J_get fe_151 (by rw [hm]) hd
theorem p_151 {O : pO} {j n0 : Nat} {Q : pQ} {pc : Nat} {L : pL} {S : List pv} {n : Nat} {M : pM} {a b : Nat} (hm : mO j = 11) (hi : (mY j).name = "<init>") (hd : decode (mB j) pc = .ok (.putfield 57, 3)) : J O j n0 Q pc L (vr b :: vr (a + 1) :: S) n M = (ob n a = 11 ∧ J O j n0 Q (pc + 3) L S n (st M a 9 (b : Int))) := (J_put (C := True) (x := (b : Int)) fe_151 (by rw [hm]) (Or.inr ⟨hi, hm.symm, rfl⟩) (fun y => by show (∃ k : Nat, vr b = vr k ∧ y = (k : Int)) ↔ _; refine ⟨fun h => ?_, fun h => ⟨b, rfl, h.2⟩⟩; obtain ⟨k, h1, h2⟩ := h; cases h1; exact ⟨trivial, h2⟩) hd).trans (by simp only [true_and])
theorem fe_152 : (11, 66, 11, 10, 636, 0) ∈ fldL := by decide +kernel
theorem g_152 {O : pO} {j n0 : Nat} {Q : pQ} {pc : Nat} {L : pL} {S : List pv} {n : Nat} {M : pM} {a : Nat} (hm : mO j = 11) (hd : decode (mB j) pc = .ok (.getfield 66, 3)) : J O j n0 Q pc L (vr (a + 1) :: S) n M = (ob n a = 11 ∧ J O j n0 Q (pc + 3) L (vr (M a 10).toNat :: S) n M) := J_get fe_152 (by rw [hm]) hd
theorem p_152 {O : pO} {j n0 : Nat} {Q : pQ} {pc : Nat} {L : pL} {S : List pv} {n : Nat} {M : pM} {a b : Nat} (hm : mO j = 11) (hi : (mY j).name = "<init>") (hd : decode (mB j) pc = .ok (.putfield 66, 3)) : J O j n0 Q pc L (vr b :: vr (a + 1) :: S) n M = (ob n a = 11 ∧ J O j n0 Q (pc + 3) L S n (st M a 10 (b : Int))) := (J_put (C := True) (x := (b : Int)) fe_152 (by rw [hm]) (Or.inr ⟨hi, hm.symm, rfl⟩) (fun y => by show (∃ k : Nat, vr b = vr k ∧ y = (k : Int)) ↔ _; refine ⟨fun h => ?_, fun h => ⟨b, rfl, h.2⟩⟩; obtain ⟨k, h1, h2⟩ := h; cases h1; exact ⟨trivial, h2⟩) hd).trans (by simp only [true_and])
theorem fe_153 : (11, 73, 11, 11, 637, 0) ∈ fldL := by decide +kernel
theorem g_153 {O : pO} {j n0 : Nat} {Q : pQ} {pc : Nat} {L : pL} {S : List pv} {n : Nat} {M : pM} {a : Nat} (hm : mO j = 11) (hd : decode (mB j) pc = .ok (.getfield 73, 3)) : J O j n0 Q pc L (vr (a + 1) :: S) n M = (ob n a = 11 ∧ J O j n0 Q (pc + 3) L (vr (M a 11).toNat :: S) n M) := J_get fe_153 (by rw [hm]) hd
theorem p_153 {O : pO} {j n0 : Nat} {Q : pQ} {pc : Nat} {L : pL} {S : List pv} {n : Nat} {M : pM} {a b : Nat} (hm : mO j = 11) (hi : (mY j).name = "<init>") (hd : decode (mB j) pc = .ok (.putfield 73, 3)) : J O j n0 Q pc L (vr b :: vr (a + 1) :: S) n M = (ob n a = 11 ∧ J O j n0 Q (pc + 3) L S n (st M a 11 (b : Int))) := (J_put (C := True) (x := (b : Int)) fe_153 (by rw [hm]) (Or.inr ⟨hi, hm.symm, rfl⟩) (fun y => by show (∃ k : Nat, vr b = vr k ∧ y = (k : Int)) ↔ _; refine ⟨fun h => ?_, fun h => ⟨b, rfl, h.2⟩⟩; obtain ⟨k, h1, h2⟩ := h; cases h1; exact ⟨trivial, h2⟩) hd).trans (by simp only [true_and])
theorem fe_154 : (11, 80, 11, 12, 638, 0) ∈ fldL := by decide +kernel
theorem g_154 {O : pO} {j n0 : Nat} {Q : pQ} {pc : Nat} {L : pL} {S : List pv} {n : Nat} {M : pM} {a : Nat} (hm : mO j = 11) (hd : decode (mB j) pc = .ok (.getfield 80, 3)) : J O j n0 Q pc L (vr (a + 1) :: S) n M = (ob n a = 11 ∧ J O j n0 Q (pc + 3) L (vr (M a 12).toNat :: S) n M) := J_get fe_154 (by rw [hm]) hd
theorem p_154 {O : pO} {j n0 : Nat} {Q : pQ} {pc : Nat} {L : pL} {S : List pv} {n : Nat} {M : pM} {a b : Nat} (hm : mO j = 11) (hi : (mY j).name = "<init>") (hd : decode (mB j) pc = .ok (.putfield 80, 3)) : J O j n0 Q pc L (vr b :: vr (a + 1) :: S) n M = (ob n a = 11 ∧ J O j n0 Q (pc + 3) L S n (st M a 12 (b : Int))) := (J_put (C := True) (x := (b : Int)) fe_154 (by rw [hm]) (Or.inr ⟨hi, hm.symm, rfl⟩) (fun y => by show (∃ k : Nat, vr b = vr k ∧ y = (k : Int)) ↔ _; refine ⟨fun h => ?_, fun h => ⟨b, rfl, h.2⟩⟩; obtain ⟨k, h1, h2⟩ := h; cases h1; exact ⟨trivial, h2⟩) hd).trans (by simp only [true_and])
theorem fe_155 : (11, 87, 11, 13, 639, 0) ∈ fldL := by decide +kernel
theorem g_155 {O : pO} {j n0 : Nat} {Q : pQ} {pc : Nat} {L : pL} {S : List pv} {n : Nat} {M : pM} {a : Nat} (hm : mO j = 11) (hd : decode (mB j) pc = .ok (.getfield 87, 3)) : J O j n0 Q pc L (vr (a + 1) :: S) n M = (ob n a = 11 ∧ J O j n0 Q (pc + 3) L (vr (M a 13).toNat :: S) n M) := J_get fe_155 (by rw [hm]) hd
theorem p_155 {O : pO} {j n0 : Nat} {Q : pQ} {pc : Nat} {L : pL} {S : List pv} {n : Nat} {M : pM} {a b : Nat} (hm : mO j = 11) (hi : (mY j).name = "<init>") (hd : decode (mB j) pc = .ok (.putfield 87, 3)) : J O j n0 Q pc L (vr b :: vr (a + 1) :: S) n M = (ob n a = 11 ∧ J O j n0 Q (pc + 3) L S n (st M a 13 (b : Int))) := (J_put (C := True) (x := (b : Int)) fe_155 (by rw [hm]) (Or.inr ⟨hi, hm.symm, rfl⟩) (fun y => by show (∃ k : Nat, vr b = vr k ∧ y = (k : Int)) ↔ _; refine ⟨fun h => ?_, fun h => ⟨b, rfl, h.2⟩⟩; obtain ⟨k, h1, h2⟩ := h; cases h1; exact ⟨trivial, h2⟩) hd).trans (by simp only [true_and])
theorem fe_156 : (11, 94, 11, 14, 640, 0) ∈ fldL := by decide +kernel
theorem g_156 {O : pO} {j n0 : Nat} {Q : pQ} {pc : Nat} {L : pL} {S : List pv} {n : Nat} {M : pM} {a : Nat} (hm : mO j = 11) (hd : decode (mB j) pc = .ok (.getfield 94, 3)) : J O j n0 Q pc L (vr (a + 1) :: S) n M = (ob n a = 11 ∧ J O j n0 Q (pc + 3) L (vr (M a 14).toNat :: S) n M) := J_get fe_156 (by rw [hm]) hd
theorem p_156 {O : pO} {j n0 : Nat} {Q : pQ} {pc : Nat} {L : pL} {S : List pv} {n : Nat} {M : pM} {a b : Nat} (hm : mO j = 11) (hi : (mY j).name = "<init>") (hd : decode (mB j) pc = .ok (.putfield 94, 3)) : J O j n0 Q pc L (vr b :: vr (a + 1) :: S) n M = (ob n a = 11 ∧ J O j n0 Q (pc + 3) L S n (st M a 14 (b : Int))) := (J_put (C := True) (x := (b : Int)) fe_156 (by rw [hm]) (Or.inr ⟨hi, hm.symm, rfl⟩) (fun y => by show (∃ k : Nat, vr b = vr k ∧ y = (k : Int)) ↔ _; refine ⟨fun h => ?_, fun h => ⟨b, rfl, h.2⟩⟩; obtain ⟨k, h1, h2⟩ := h; cases h1; exact ⟨trivial, h2⟩) hd).trans (by simp only [true_and])
theorem fe_157 : (11, 101, 11, 15, 641, 0) ∈ fldL := by decide +kernel
theorem g_157 {O : pO} {j n0 : Nat} {Q : pQ} {pc : Nat} {L : pL} {S : List pv} {n : Nat} {M : pM} {a : Nat} (hm : mO j = 11) (hd : decode (mB j) pc = .ok (.getfield 101, 3)) : J O j n0 Q pc L (vr (a + 1) :: S) n M = (ob n a = 11 ∧ J O j n0 Q (pc + 3) L (vr (M a 15).toNat :: S) n M) := J_get fe_157 (by rw [hm]) hd
theorem p_157 {O : pO} {j n0 : Nat} {Q : pQ} {pc : Nat} {L : pL} {S : List pv} {n : Nat} {M : pM} {a b : Nat} (hm : mO j = 11) (hi : (mY j).name = "<init>") (hd : decode (mB j) pc = .ok (.putfield 101, 3)) : J O j n0 Q pc L (vr b :: vr (a + 1) :: S) n M = (ob n a = 11 ∧ J O j n0 Q (pc + 3) L S n (st M a 15 (b : Int))) := (J_put (C := True) (x := (b : Int)) fe_157 (by rw [hm]) (Or.inr ⟨hi, hm.symm, rfl⟩) (fun y => by show (∃ k : Nat, vr b = vr k ∧ y = (k : Int)) ↔ _; refine ⟨fun h => ?_, fun h => ⟨b, rfl, h.2⟩⟩; obtain ⟨k, h1, h2⟩ := h; cases h1; exact ⟨trivial, h2⟩) hd).trans (by simp only [true_and])
theorem fe_158 : (12, 117, 12, 0, 1507, 0) ∈ fldL := by decide +kernel
theorem g_158 {O : pO} {j n0 : Nat} {Q : pQ} {pc : Nat} {L : pL} {S : List pv} {n : Nat} {M : pM} {a : Nat} (hm : mO j = 12) (hd : decode (mB j) pc = .ok (.getfield 117, 3)) : J O j n0 Q pc L (vr (a + 1) :: S) n M = (ob n a = 12 ∧ J O j n0 Q (pc + 3) L (vr (M a 0).toNat :: S) n M) := J_get fe_158 (by rw [hm]) hd
theorem p_158 {O : pO} {j n0 : Nat} {Q : pQ} {pc : Nat} {L : pL} {S : List pv} {n : Nat} {M : pM} {a b : Nat} (hm : mO j = 12) (hi : (mY j).name = "<init>") (hd : decode (mB j) pc = .ok (.putfield 117, 3)) : J O j n0 Q pc L (vr b :: vr (a + 1) :: S) n M = (ob n a = 12 ∧ J O j n0 Q (pc + 3) L S n (st M a 0 (b : Int))) := (J_put (C := True) (x := (b : Int)) fe_158 (by rw [hm]) (Or.inr ⟨hi, hm.symm, rfl⟩) (fun y => by show (∃ k : Nat, vr b = vr k ∧ y = (k : Int)) ↔ _; refine ⟨fun h => ?_, fun h => ⟨b, rfl, h.2⟩⟩; obtain ⟨k, h1, h2⟩ := h; cases h1; exact ⟨trivial, h2⟩) hd).trans (by simp only [true_and])
theorem fe_159 : (12, 7, 12, 1, 1508, 0) ∈ fldL := by decide +kernel
theorem g_159 {O : pO} {j n0 : Nat} {Q : pQ} {pc : Nat} {L : pL} {S : List pv} {n : Nat} {M : pM} {a : Nat} (hm : mO j = 12) (hd : decode (mB j) pc = .ok (.getfield 7, 3)) : J O j n0 Q pc L (vr (a + 1) :: S) n M = (ob n a = 12 ∧ J O j n0 Q (pc + 3) L (vr (M a 1).toNat :: S) n M) := J_get fe_159 (by rw [hm]) hd
theorem p_159 {O : pO} {j n0 : Nat} {Q : pQ} {pc : Nat} {L : pL} {S : List pv} {n : Nat} {M : pM} {a b : Nat} (hm : mO j = 12) (hi : (mY j).name = "<init>") (hd : decode (mB j) pc = .ok (.putfield 7, 3)) : J O j n0 Q pc L (vr b :: vr (a + 1) :: S) n M = (ob n a = 12 ∧ J O j n0 Q (pc + 3) L S n (st M a 1 (b : Int))) := (J_put (C := True) (x := (b : Int)) fe_159 (by rw [hm]) (Or.inr ⟨hi, hm.symm, rfl⟩) (fun y => by show (∃ k : Nat, vr b = vr k ∧ y = (k : Int)) ↔ _; refine ⟨fun h => ?_, fun h => ⟨b, rfl, h.2⟩⟩; obtain ⟨k, h1, h2⟩ := h; cases h1; exact ⟨trivial, h2⟩) hd).trans (by simp only [true_and])
theorem fe_160 : (12, 114, 12, 2, 1509, 0) ∈ fldL := by decide +kernel
theorem g_160 {O : pO} {j n0 : Nat} {Q : pQ} {pc : Nat} {L : pL} {S : List pv} {n : Nat} {M : pM} {a : Nat} (hm : mO j = 12) (hd : decode (mB j) pc = .ok (.getfield 114, 3)) : J O j n0 Q pc L (vr (a + 1) :: S) n M = (ob n a = 12 ∧ J O j n0 Q (pc + 3) L (vi (M a 2) :: S) n M) := J_get fe_160 (by rw [hm]) hd
theorem p_160 {O : pO} {j n0 : Nat} {Q : pQ} {pc : Nat} {L : pL} {S : List pv} {n : Nat} {M : pM} {a : Nat} {x : Int} (hm : mO j = 12) (hd : decode (mB j) pc = .ok (.putfield 114, 3)) : J O j n0 Q pc L (vi x :: vr (a + 1) :: S) n M = (ob n a = 12 ∧ J O j n0 Q (pc + 3) L S n (st M a 2 x)) := (J_put (C := True) (x := x) fe_160 (by rw [hm]) (Or.inl rfl) (fun y => by show (vi x = vi y) ↔ _; simp [eq_comm]) hd).trans (by simp only [true_and])
theorem fe_161 : (12, 1, 12, 3, 1510, 0) ∈ fldL := by decide +kernel
theorem g_161 {O : pO} {j n0 : Nat} {Q : pQ} {pc : Nat} {L : pL} {S : List pv} {n : Nat} {M : pM} {a : Nat} (hm : mO j = 12) (hd : decode (mB j) pc = .ok (.getfield 1, 3)) : J O j n0 Q pc L (vr (a + 1) :: S) n M = (ob n a = 12 ∧ J O j n0 Q (pc + 3) L (vi (M a 3) :: S) n M) := J_get fe_161 (by rw [hm]) hd
theorem p_161 {O : pO} {j n0 : Nat} {Q : pQ} {pc : Nat} {L : pL} {S : List pv} {n : Nat} {M : pM} {a : Nat} {x : Int} (hm : mO j = 12) (hd : decode (mB j) pc = .ok (.putfield 1, 3)) : J O j n0 Q pc L (vi x :: vr (a + 1) :: S) n M = (ob n a = 12 ∧ J O j n0 Q (pc + 3) L S n (st M a 3 x)) := (J_put (C := True) (x := x) fe_161 (by rw [hm]) (Or.inl rfl) (fun y => by show (vi x = vi y) ↔ _; simp [eq_comm]) hd).trans (by simp only [true_and])
theorem fe_162 : (12, 11, 12, 4, 1511, 0) ∈ fldL := by decide +kernel
theorem g_162 {O : pO} {j n0 : Nat} {Q : pQ} {pc : Nat} {L : pL} {S : List pv} {n : Nat} {M : pM} {a : Nat} (hm : mO j = 12) (hd : decode (mB j) pc = .ok (.getfield 11, 3)) : J O j n0 Q pc L (vr (a + 1) :: S) n M = (ob n a = 12 ∧ J O j n0 Q (pc + 3) L (vi (M a 4) :: S) n M) := J_get fe_162 (by rw [hm]) hd
theorem p_162 {O : pO} {j n0 : Nat} {Q : pQ} {pc : Nat} {L : pL} {S : List pv} {n : Nat} {M : pM} {a : Nat} {x : Int} (hm : mO j = 12) (hd : decode (mB j) pc = .ok (.putfield 11, 3)) : J O j n0 Q pc L (vi x :: vr (a + 1) :: S) n M = (ob n a = 12 ∧ J O j n0 Q (pc + 3) L S n (st M a 4 x)) := (J_put (C := True) (x := x) fe_162 (by rw [hm]) (Or.inl rfl) (fun y => by show (vi x = vi y) ↔ _; simp [eq_comm]) hd).trans (by simp only [true_and])
theorem fe_163 : (12, 14, 12, 5, 1512, 0) ∈ fldL := by decide +kernel
theorem g_163 {O : pO} {j n0 : Nat} {Q : pQ} {pc : Nat} {L : pL} {S : List pv} {n : Nat} {M : pM} {a : Nat} (hm : mO j = 12) (hd : decode (mB j) pc = .ok (.getfield 14, 3)) : J O j n0 Q pc L (vr (a + 1) :: S) n M = (ob n a = 12 ∧ J O j n0 Q (pc + 3) L (vi (M a 5) :: S) n M) := J_get fe_163 (by rw [hm]) hd
theorem p_163 {O : pO} {j n0 : Nat} {Q : pQ} {pc : Nat} {L : pL} {S : List pv} {n : Nat} {M : pM} {a : Nat} {x : Int} (hm : mO j = 12) (hd : decode (mB j) pc = .ok (.putfield 14, 3)) : J O j n0 Q pc L (vi x :: vr (a + 1) :: S) n M = (ob n a = 12 ∧ J O j n0 Q (pc + 3) L S n (st M a 5 x)) := (J_put (C := True) (x := x) fe_163 (by rw [hm]) (Or.inl rfl) (fun y => by show (vi x = vi y) ↔ _; simp [eq_comm]) hd).trans (by simp only [true_and])
theorem fe_164 : (12, 68, 12, 6, 1513, 0) ∈ fldL := by decide +kernel
theorem g_164 {O : pO} {j n0 : Nat} {Q : pQ} {pc : Nat} {L : pL} {S : List pv} {n : Nat} {M : pM} {a : Nat} (hm : mO j = 12) (hd : decode (mB j) pc = .ok (.getfield 68, 3)) : J O j n0 Q pc L (vr (a + 1) :: S) n M = (ob n a = 12 ∧ J O j n0 Q (pc + 3) L (vi (M a 6) :: S) n M) := J_get fe_164 (by rw [hm]) hd
theorem p_164 {O : pO} {j n0 : Nat} {Q : pQ} {pc : Nat} {L : pL} {S : List pv} {n : Nat} {M : pM} {a : Nat} {x : Int} (hm : mO j = 12) (hd : decode (mB j) pc = .ok (.putfield 68, 3)) : J O j n0 Q pc L (vi x :: vr (a + 1) :: S) n M = (ob n a = 12 ∧ J O j n0 Q (pc + 3) L S n (st M a 6 x)) := (J_put (C := True) (x := x) fe_164 (by rw [hm]) (Or.inl rfl) (fun y => by show (vi x = vi y) ↔ _; simp [eq_comm]) hd).trans (by simp only [true_and])
theorem fe_165 : (12, 65, 12, 7, 1514, 0) ∈ fldL := by decide +kernel
theorem g_165 {O : pO} {j n0 : Nat} {Q : pQ} {pc : Nat} {L : pL} {S : List pv} {n : Nat} {M : pM} {a : Nat} (hm : mO j = 12) (hd : decode (mB j) pc = .ok (.getfield 65, 3)) : J O j n0 Q pc L (vr (a + 1) :: S) n M = (ob n a = 12 ∧ J O j n0 Q (pc + 3) L (vi (M a 7) :: S) n M) := J_get fe_165 (by rw [hm]) hd
theorem p_165 {O : pO} {j n0 : Nat} {Q : pQ} {pc : Nat} {L : pL} {S : List pv} {n : Nat} {M : pM} {a : Nat} {x : Int} (hm : mO j = 12) (hd : decode (mB j) pc = .ok (.putfield 65, 3)) : J O j n0 Q pc L (vi x :: vr (a + 1) :: S) n M = (ob n a = 12 ∧ J O j n0 Q (pc + 3) L S n (st M a 7 x)) := (J_put (C := True) (x := x) fe_165 (by rw [hm]) (Or.inl rfl) (fun y => by show (vi x = vi y) ↔ _; simp [eq_comm]) hd).trans (by simp only [true_and])
theorem fe_166 : (12, 75, 12, 8, 1515, 0) ∈ fldL := by decide +kernel
theorem g_166 {O : pO} {j n0 : Nat} {Q : pQ} {pc : Nat} {L : pL} {S : List pv} {n : Nat} {M : pM} {a : Nat} (hm : mO j = 12) (hd : decode (mB j) pc = .ok (.getfield 75, 3)) : J O j n0 Q pc L (vr (a + 1) :: S) n M = (ob n a = 12 ∧ J O j n0 Q (pc + 3) L (vi (M a 8) :: S) n M) := J_get fe_166 (by rw [hm]) hd
theorem p_166 {O : pO} {j n0 : Nat} {Q : pQ} {pc : Nat} {L : pL} {S : List pv} {n : Nat} {M : pM} {a : Nat} {x : Int} (hm : mO j = 12) (hd : decode (mB j) pc = .ok (.putfield 75, 3)) : J O j n0 Q pc L (vi x :: vr (a + 1) :: S) n M = (ob n a = 12 ∧ J O j n0 Q (pc + 3) L S n (st M a 8 x)) := (J_put (C := True) (x := x) fe_166 (by rw [hm]) (Or.inl rfl) (fun y => by show (vi x = vi y) ↔ _; simp [eq_comm]) hd).trans (by simp only [true_and])
theorem fe_167 : (12, 93, 12, 9, 1516, 0) ∈ fldL := by decide +kernel
theorem g_167 {O : pO} {j n0 : Nat} {Q : pQ} {pc : Nat} {L : pL} {S : List pv} {n : Nat} {M : pM} {a : Nat} (hm : mO j = 12) (hd : decode (mB j) pc = .ok (.getfield 93, 3)) : J O j n0 Q pc L (vr (a + 1) :: S) n M = (ob n a = 12 ∧ J O j n0 Q (pc + 3) L (vi (M a 9) :: S) n M) := J_get fe_167 (by rw [hm]) hd
theorem p_167 {O : pO} {j n0 : Nat} {Q : pQ} {pc : Nat} {L : pL} {S : List pv} {n : Nat} {M : pM} {a : Nat} {x : Int} (hm : mO j = 12) (hd : decode (mB j) pc = .ok (.putfield 93, 3)) : J O j n0 Q pc L (vi x :: vr (a + 1) :: S) n M = (ob n a = 12 ∧ J O j n0 Q (pc + 3) L S n (st M a 9 x)) := (J_put (C := True) (x := x) fe_167 (by rw [hm]) (Or.inl rfl) (fun y => by show (vi x = vi y) ↔ _; simp [eq_comm]) hd).trans (by simp only [true_and])
theorem fe_168 : (12, 82, 12, 10, 1517, 0) ∈ fldL := by decide +kernel
theorem g_168 {O : pO} {j n0 : Nat} {Q : pQ} {pc : Nat} {L : pL} {S : List pv} {n : Nat} {M : pM} {a : Nat} (hm : mO j = 12) (hd : decode (mB j) pc = .ok (.getfield 82, 3)) : J O j n0 Q pc L (vr (a + 1) :: S) n M = (ob n a = 12 ∧ J O j n0 Q (pc + 3) L (vl (M a 10) :: S) n M) := J_get fe_168 (by rw [hm]) hd
theorem p_168 {O : pO} {j n0 : Nat} {Q : pQ} {pc : Nat} {L : pL} {S : List pv} {n : Nat} {M : pM} {a : Nat} {x : Int} (hm : mO j = 12) (hd : decode (mB j) pc = .ok (.putfield 82, 3)) : J O j n0 Q pc L (vl x :: vr (a + 1) :: S) n M = (ob n a = 12 ∧ J O j n0 Q (pc + 3) L S n (st M a 10 x)) := (J_put (C := True) (x := x) fe_168 (by rw [hm]) (Or.inl rfl) (fun y => by show (vl x = vl y) ↔ _; simp [eq_comm]) hd).trans (by simp only [true_and])
theorem fe_169 : (12, 120, 12, 11, 1518, 0) ∈ fldL := by decide +kernel
theorem g_169 {O : pO} {j n0 : Nat} {Q : pQ} {pc : Nat} {L : pL} {S : List pv} {n : Nat} {M : pM} {a : Nat} (hm : mO j = 12) (hd : decode (mB j) pc = .ok (.getfield 120, 3)) : J O j n0 Q pc L (vr (a + 1) :: S) n M = (ob n a = 12 ∧ J O j n0 Q (pc + 3) L (vr (M a 11).toNat :: S) n M) := J_get fe_169 (by rw [hm]) hd
theorem p_169 {O : pO} {j n0 : Nat} {Q : pQ} {pc : Nat} {L : pL} {S : List pv} {n : Nat} {M : pM} {a b : Nat} (hm : mO j = 12) (hi : (mY j).name = "<init>") (hd : decode (mB j) pc = .ok (.putfield 120, 3)) : J O j n0 Q pc L (vr b :: vr (a + 1) :: S) n M = (ob n a = 12 ∧ J O j n0 Q (pc + 3) L S n (st M a 11 (b : Int))) := (J_put (C := True) (x := (b : Int)) fe_169 (by rw [hm]) (Or.inr ⟨hi, hm.symm, rfl⟩) (fun y => by show (∃ k : Nat, vr b = vr k ∧ y = (k : Int)) ↔ _; refine ⟨fun h => ?_, fun h => ⟨b, rfl, h.2⟩⟩; obtain ⟨k, h1, h2⟩ := h; cases h1; exact ⟨trivial, h2⟩) hd).trans (by simp only [true_and])
theorem fe_170 : (12, 127, 12, 12, 1519, 0) ∈ fldL := by decide +kernel
theorem g_170 {O : pO} {j n0 : Nat} {Q : pQ} {pc : Nat} {L : pL} {S : List pv} {n : Nat} {M : pM} {a : Nat} (hm : mO j = 12) (hd : decode (mB j) pc = .ok (.getfield 127, 3)) : J O j n0 Q pc L (vr (a + 1) :: S) n M = (ob n a = 12 ∧ J O j n0 Q (pc + 3) L (vr (M a 12).toNat :: S) n M) := J_get fe_170 (by rw [hm]) hd
theorem p_170 {O : pO} {j n0 : Nat} {Q : pQ} {pc : Nat} {L : pL} {S : List pv} {n : Nat} {M : pM} {a b : Nat} (hm : mO j = 12) (hi : (mY j).name = "<init>") (hd : decode (mB j) pc = .ok (.putfield 127, 3)) : J O j n0 Q pc L (vr b :: vr (a + 1) :: S) n M = (ob n a = 12 ∧ J O j n0 Q (pc + 3) L S n (st M a 12 (b : Int))) := (J_put (C := True) (x := (b : Int)) fe_170 (by rw [hm]) (Or.inr ⟨hi, hm.symm, rfl⟩) (fun y => by show (∃ k : Nat, vr b = vr k ∧ y = (k : Int)) ↔ _; refine ⟨fun h => ?_, fun h => ⟨b, rfl, h.2⟩⟩; obtain ⟨k, h1, h2⟩ := h; cases h1; exact ⟨trivial, h2⟩) hd).trans (by simp only [true_and])
theorem fe_171 : (12, 130, 12, 13, 1520, 0) ∈ fldL := by decide +kernel
theorem g_171 {O : pO} {j n0 : Nat} {Q : pQ} {pc : Nat} {L : pL} {S : List pv} {n : Nat} {M : pM} {a : Nat} (hm : mO j = 12) (hd : decode (mB j) pc = .ok (.getfield 130, 3)) : J O j n0 Q pc L (vr (a + 1) :: S) n M = (ob n a = 12 ∧ J O j n0 Q (pc + 3) L (vr (M a 13).toNat :: S) n M) := J_get fe_171 (by rw [hm]) hd
theorem p_171 {O : pO} {j n0 : Nat} {Q : pQ} {pc : Nat} {L : pL} {S : List pv} {n : Nat} {M : pM} {a b : Nat} (hm : mO j = 12) (hi : (mY j).name = "<init>") (hd : decode (mB j) pc = .ok (.putfield 130, 3)) : J O j n0 Q pc L (vr b :: vr (a + 1) :: S) n M = (ob n a = 12 ∧ J O j n0 Q (pc + 3) L S n (st M a 13 (b : Int))) := (J_put (C := True) (x := (b : Int)) fe_171 (by rw [hm]) (Or.inr ⟨hi, hm.symm, rfl⟩) (fun y => by show (∃ k : Nat, vr b = vr k ∧ y = (k : Int)) ↔ _; refine ⟨fun h => ?_, fun h => ⟨b, rfl, h.2⟩⟩; obtain ⟨k, h1, h2⟩ := h; cases h1; exact ⟨trivial, h2⟩) hd).trans (by simp only [true_and])
theorem fe_172 : (12, 133, 12, 14, 1521, 0) ∈ fldL := by decide +kernel
theorem g_172 {O : pO} {j n0 : Nat} {Q : pQ} {pc : Nat} {L : pL} {S : List pv} {n : Nat} {M : pM} {a : Nat} (hm : mO j = 12) (hd : decode (mB j) pc = .ok (.getfield 133, 3)) : J O j n0 Q pc L (vr (a + 1) :: S) n M = (ob n a = 12 ∧ J O j n0 Q (pc + 3) L (vr (M a 14).toNat :: S) n M) := J_get fe_172 (by rw [hm]) hd
theorem p_172 {O : pO} {j n0 : Nat} {Q : pQ} {pc : Nat} {L : pL} {S : List pv} {n : Nat} {M : pM} {a b : Nat} (hm : mO j = 12) (hi : (mY j).name = "<init>") (hd : decode (mB j) pc = .ok (.putfield 133, 3)) : J O j n0 Q pc L (vr b :: vr (a + 1) :: S) n M = (ob n a = 12 ∧ J O j n0 Q (pc + 3) L S n (st M a 14 (b : Int))) := (J_put (C := True) (x := (b : Int)) fe_172 (by rw [hm]) (Or.inr ⟨hi, hm.symm, rfl⟩) (fun y => by show (∃ k : Nat, vr b = vr k ∧ y = (k : Int)) ↔ _; refine ⟨fun h => ?_, fun h => ⟨b, rfl, h.2⟩⟩; obtain ⟨k, h1, h2⟩ := h; cases h1; exact ⟨trivial, h2⟩) hd).trans (by simp only [true_and])
theorem fe_173 : (12, 136, 12, 15, 1522, 0) ∈ fldL := by decide +kernel
theorem g_173 {O : pO} {j n0 : Nat} {Q : pQ} {pc : Nat} {L : pL} {S : List pv} {n : Nat} {M : pM} {a : Nat} (hm : mO j = 12) (hd : decode (mB j) pc = .ok (.getfield 136, 3)) : J O j n0 Q pc L (vr (a + 1) :: S) n M = (ob n a = 12 ∧ J O j n0 Q (pc + 3) L (vr (M a 15).toNat :: S) n M) := J_get fe_173 (by rw [hm]) hd
theorem p_173 {O : pO} {j n0 : Nat} {Q : pQ} {pc : Nat} {L : pL} {S : List pv} {n : Nat} {M : pM} {a b : Nat} (hm : mO j = 12) (hi : (mY j).name = "<init>") (hd : decode (mB j) pc = .ok (.putfield 136, 3)) : J O j n0 Q pc L (vr b :: vr (a + 1) :: S) n M = (ob n a = 12 ∧ J O j n0 Q (pc + 3) L S n (st M a 15 (b : Int))) := (J_put (C := True) (x := (b : Int)) fe_173 (by rw [hm]) (Or.inr ⟨hi, hm.symm, rfl⟩) (fun y => by show (∃ k : Nat, vr b = vr k ∧ y = (k : Int)) ↔ _; refine ⟨fun h => ?_, fun h => ⟨b, rfl, h.2⟩⟩; obtain ⟨k, h1, h2⟩ := h; cases h1; exact ⟨trivial, h2⟩) hd).trans (by simp only [true_and])
theorem fe_174 : (12, 139, 12, 16, 1523, 0) ∈ fldL := by decide +kernel
theorem g_174 {O : pO} {j n0 : Nat} {Q : pQ} {pc : Nat} {L : pL} {S : List pv} {n : Nat} {M : pM} {a : Nat} (hm : mO j = 12) (hd : decode (mB j) pc = .ok (.getfield 139, 3)) : J O j n0 Q pc L (vr (a + 1) :: S) n M = (ob n a = 12 ∧ J O j n0 Q (pc + 3) L (vr (M a 16).toNat :: S) n M) := J_get fe_174 (by rw [hm]) hd
theorem p_174 {O : pO} {j n0 : Nat} {Q : pQ} {pc : Nat} {L : pL} {S : List pv} {n : Nat} {M : pM} {a b : Nat} (hm : mO j = 12) (hi : (mY j).name = "<init>") (hd : decode (mB j) pc = .ok (.putfield 139, 3)) : J O j n0 Q pc L (vr b :: vr (a + 1) :: S) n M = (ob n a = 12 ∧ J O j n0 Q (pc + 3) L S n (st M a 16 (b : Int))) := (J_put (C := True) (x := (b : Int)) fe_174 (by rw [hm]) (Or.inr ⟨hi, hm.symm, rfl⟩) (fun y => by show (∃ k : Nat, vr b = vr k ∧ y = (k : Int)) ↔ _; refine ⟨fun h => ?_, fun h => ⟨b, rfl, h.2⟩⟩; obtain ⟨k, h1, h2⟩ := h; cases h1; exact ⟨trivial, h2⟩) hd).trans (by simp only [true_and])
theorem fe_175 : (12, 152, 12, 17, 1524, 0) ∈ fldL := by decide +kernel
theorem g_175 {O : pO} {j n0 : Nat} {Q : pQ} {pc : Nat} {L : pL} {S : List pv} {n : Nat} {M : pM} {a : Nat} (hm : mO j = 12) (hd : decode (mB j) pc = .ok (.getfield 152, 3)) : J O j n0 Q pc L (vr (a + 1) :: S) n M = (ob n a = 12 ∧ J O j n0 Q (pc + 3) L (vr (M a 17).toNat :: S) n M) := J_get fe_175 (by rw [hm]) hd
theorem p_175 {O : pO} {j n0 : Nat} {Q : pQ} {pc : Nat} {L : pL} {S : List pv} {n : Nat} {M : pM} {a b : Nat} (hm : mO j = 12) (hi : (mY j).name = "<init>") (hd : decode (mB j) pc = .ok (.putfield 152, 3)) : J O j n0 Q pc L (vr b :: vr (a + 1) :: S) n M = (ob n a = 12 ∧ J O j n0 Q (pc + 3) L S n (st M a 17 (b : Int))) := (J_put (C := True) (x := (b : Int)) fe_175 (by rw [hm]) (Or.inr ⟨hi, hm.symm, rfl⟩) (fun y => by show (∃ k : Nat, vr b = vr k ∧ y = (k : Int)) ↔ _; refine ⟨fun h => ?_, fun h => ⟨b, rfl, h.2⟩⟩; obtain ⟨k, h1, h2⟩ := h; cases h1; exact ⟨trivial, h2⟩) hd).trans (by simp only [true_and])
theorem fe_176 : (12, 155, 12, 18, 1525, 0) ∈ fldL := by decide +kernel
theorem g_176 {O : pO} {j n0 : Nat} {Q : pQ} {pc : Nat} {L : pL} {S : List pv} {n : Nat} {M : pM} {a : Nat} (hm : mO j = 12) (hd : decode (mB j) pc = .ok (.getfield 155, 3)) : J O j n0 Q pc L (vr (a + 1) :: S) n M = (ob n a = 12 ∧ J O j n0 Q (pc + 3) L (vr (M a 18).toNat :: S) n M) := J_get fe_176 (by rw [hm]) hd
theorem p_176 {O : pO} {j n0 : Nat} {Q : pQ} {pc : Nat} {L : pL} {S : List pv} {n : Nat} {M : pM} {a b : Nat} (hm : mO j = 12) (hi : (mY j).name = "<init>") (hd : decode (mB j) pc = .ok (.putfield 155, 3)) : J O j n0 Q pc L (vr b :: vr (a + 1) :: S) n M = (ob n a = 12 ∧ J O j n0 Q (pc + 3) L S n (st M a 18 (b : Int))) := (J_put (C := True) (x := (b : Int)) fe_176 (by rw [hm]) (Or.inr ⟨hi, hm.symm, rfl⟩) (fun y => by show (∃ k : Nat, vr b = vr k ∧ y = (k : Int)) ↔ _; refine ⟨fun h => ?_, fun h => ⟨b, rfl, h.2⟩⟩; obtain ⟨k, h1, h2⟩ := h; cases h1; exact ⟨trivial, h2⟩) hd).trans (by simp only [true_and])
theorem fe_177 : (12, 158, 12, 19, 1526, 0) ∈ fldL := by decide +kernel
theorem g_177 {O : pO} {j n0 : Nat} {Q : pQ} {pc : Nat} {L : pL} {S : List pv} {n : Nat} {M : pM} {a : Nat} (hm : mO j = 12) (hd : decode (mB j) pc = .ok (.getfield 158, 3)) : J O j n0 Q pc L (vr (a + 1) :: S) n M = (ob n a = 12 ∧ J O j n0 Q (pc + 3) L (vr (M a 19).toNat :: S) n M) := J_get fe_177 (by rw [hm]) hd
theorem p_177 {O : pO} {j n0 : Nat} {Q : pQ} {pc : Nat} {L : pL} {S : List pv} {n : Nat} {M : pM} {a b : Nat} (hm : mO j = 12) (hi : (mY j).name = "<init>") (hd : decode (mB j) pc = .ok (.putfield 158, 3)) : J O j n0 Q pc L (vr b :: vr (a + 1) :: S) n M = (ob n a = 12 ∧ J O j n0 Q (pc + 3) L S n (st M a 19 (b : Int))) := (J_put (C := True) (x := (b : Int)) fe_177 (by rw [hm]) (Or.inr ⟨hi, hm.symm, rfl⟩) (fun y => by show (∃ k : Nat, vr b = vr k ∧ y = (k : Int)) ↔ _; refine ⟨fun h => ?_, fun h => ⟨b, rfl, h.2⟩⟩; obtain ⟨k, h1, h2⟩ := h; cases h1; exact ⟨trivial, h2⟩) hd).trans (by simp only [true_and])
theorem fe_178 : (12, 161, 12, 20, 1527, 0) ∈ fldL := by decide +kernel
theorem g_178 {O : pO} {j n0 : Nat} {Q : pQ} {pc : Nat} {L : pL} {S : List pv} {n : Nat} {M : pM} {a : Nat} (hm : mO j = 12) (hd : decode (mB j) pc = .ok (.getfield 161, 3)) : J O j n0 Q pc L (vr (a + 1) :: S) n M = (ob n a = 12 ∧ J O j n0 Q (pc + 3) L (vr (M a 20).toNat :: S) n M) := J_get fe_178 (by rw [hm]) hd
theorem p_178 {O : pO} {j n0 : Nat} {Q : pQ} {pc : Nat} {L : pL} {S : List pv} {n : Nat} {M : pM} {a b : Nat} (hm : mO j = 12) (hi : (mY j).name = "<init>") (hd : decode (mB j) pc = .ok (.putfield 161, 3)) : J O j n0 Q pc L (vr b :: vr (a + 1) :: S) n M = (ob n a = 12 ∧ J O j n0 Q (pc + 3) L S n (st M a 20 (b : Int))) := (J_put (C := True) (x := (b : Int)) fe_178 (by rw [hm]) (Or.inr ⟨hi, hm.symm, rfl⟩) (fun y => by show (∃ k : Nat, vr b = vr k ∧ y = (k : Int)) ↔ _; refine ⟨fun h => ?_, fun h => ⟨b, rfl, h.2⟩⟩; obtain ⟨k, h1, h2⟩ := h; cases h1; exact ⟨trivial, h2⟩) hd).trans (by simp only [true_and])
theorem fe_179 : (12, 169, 12, 21, 1528, 0) ∈ fldL := by decide +kernel
theorem g_179 {O : pO} {j n0 : Nat} {Q : pQ} {pc : Nat} {L : pL} {S : List pv} {n : Nat} {M : pM} {a : Nat} (hm : mO j = 12) (hd : decode (mB j) pc = .ok (.getfield 169, 3)) : J O j n0 Q pc L (vr (a + 1) :: S) n M = (ob n a = 12 ∧ J O j n0 Q (pc + 3) L (vr (M a 21).toNat :: S) n M) := J_get fe_179 (by rw [hm]) hd
theorem p_179 {O : pO} {j n0 : Nat} {Q : pQ} {pc : Nat} {L : pL} {S : List pv} {n : Nat} {M : pM} {a b : Nat} (hm : mO j = 12) (hi : (mY j).name = "<init>") (hd : decode (mB j) pc = .ok (.putfield 169, 3)) : J O j n0 Q pc L (vr b :: vr (a + 1) :: S) n M = (ob n a = 12 ∧ J O j n0 Q (pc + 3) L S n (st M a 21 (b : Int))) := (J_put (C := True) (x := (b : Int)) fe_179 (by rw [hm]) (Or.inr ⟨hi, hm.symm, rfl⟩) (fun y => by show (∃ k : Nat, vr b = vr k ∧ y = (k : Int)) ↔ _; refine ⟨fun h => ?_, fun h => ⟨b, rfl, h.2⟩⟩; obtain ⟨k, h1, h2⟩ := h; cases h1; exact ⟨trivial, h2⟩) hd).trans (by simp only [true_and])
theorem fe_180 : (12, 172, 12, 22, 1529, 0) ∈ fldL := by decide +kernel
theorem g_180 {O : pO} {j n0 : Nat} {Q : pQ} {pc : Nat} {L : pL} {S : List pv} {n : Nat} {M : pM} {a : Nat} (hm : mO j = 12) (hd : decode (mB j) pc = .ok (.getfield 172, 3)) : J O j n0 Q pc L (vr (a + 1) :: S) n M = (ob n a = 12 ∧ J O j n0 Q (pc + 3) L (vr (M a 22).toNat :: S) n M) := J_get fe_180 (by rw [hm]) hd
theorem p_180 {O : pO} {j n0 : Nat} {Q : pQ} {pc : Nat} {L : pL} {S : List pv} {n : Nat} {M : pM} {a b : Nat} (hm : mO j = 12) (hi : (mY j).name = "<init>") (hd : decode (mB j) pc = .ok (.putfield 172, 3)) : J O j n0 Q pc L (vr b :: vr (a + 1) :: S) n M = (ob n a = 12 ∧ J O j n0 Q (pc + 3) L S n (st M a 22 (b : Int))) := (J_put (C := True) (x := (b : Int)) fe_180 (by rw [hm]) (Or.inr ⟨hi, hm.symm, rfl⟩) (fun y => by show (∃ k : Nat, vr b = vr k ∧ y = (k : Int)) ↔ _; refine ⟨fun h => ?_, fun h => ⟨b, rfl, h.2⟩⟩; obtain ⟨k, h1, h2⟩ := h; cases h1; exact ⟨trivial, h2⟩) hd).trans (by simp only [true_and])
theorem fe_181 : (12, 175, 12, 23, 1530, 0) ∈ fldL := by decide +kernel
theorem g_181 {O : pO} {j n0 : Nat} {Q : pQ} {pc : Nat} {L : pL} {S : List pv} {n : Nat} {M : pM} {a : Nat} (hm : mO j = 12) (hd : decode (mB j) pc = .ok (.getfield 175, 3)) : J O j n0 Q pc L (vr (a + 1) :: S) n M = (ob n a = 12 ∧ J O j n0 Q (pc + 3) L (vr (M a 23).toNat :: S) n M) := J_get fe_181 (by rw [hm]) hd
theorem p_181 {O : pO} {j n0 : Nat} {Q : pQ} {pc : Nat} {L : pL} {S : List pv} {n : Nat} {M : pM} {a b : Nat} (hm : mO j = 12) (hi : (mY j).name = "<init>") (hd : decode (mB j) pc = .ok (.putfield 175, 3)) : J O j n0 Q pc L (vr b :: vr (a + 1) :: S) n M = (ob n a = 12 ∧ J O j n0 Q (pc + 3) L S n (st M a 23 (b : Int))) := (J_put (C := True) (x := (b : Int)) fe_181 (by rw [hm]) (Or.inr ⟨hi, hm.symm, rfl⟩) (fun y => by show (∃ k : Nat, vr b = vr k ∧ y = (k : Int)) ↔ _; refine ⟨fun h => ?_, fun h => ⟨b, rfl, h.2⟩⟩; obtain ⟨k, h1, h2⟩ := h; cases h1; exact ⟨trivial, h2⟩) hd).trans (by simp only [true_and])
theorem fe_182 : (12, 178, 12, 24, 1531, 0) ∈ fldL := by decide +kernel
theorem g_182 {O : pO} {j n0 : Nat} {Q : pQ} {pc : Nat} {L : pL} {S : List pv} {n : Nat} {M : pM} {a : Nat} (hm : mO j = 12) (hd : decode (mB j) pc = .ok (.getfield 178, 3)) : J O j n0 Q pc L (vr (a + 1) :: S) n M = (ob n a = 12 ∧ J O j n0 Q (pc + 3) L (vr (M a 24).toNat :: S) n M) := J_get fe_182 (by rw [hm]) hd
theorem p_182 {O : pO} {j n0 : Nat} {Q : pQ} {pc : Nat} {L : pL} {S : List pv} {n : Nat} {M : pM} {a b : Nat} (hm : mO j = 12) (hi : (mY j).name = "<init>") (hd : decode (mB j) pc = .ok (.putfield 178, 3)) : J O j n0 Q pc L (vr b :: vr (a + 1) :: S) n M = (ob n a = 12 ∧ J O j n0 Q (pc + 3) L S n (st M a 24 (b : Int))) := (J_put (C := True) (x := (b : Int)) fe_182 (by rw [hm]) (Or.inr ⟨hi, hm.symm, rfl⟩) (fun y => by show (∃ k : Nat, vr b = vr k ∧ y = (k : Int)) ↔ _; refine ⟨fun h => ?_, fun h => ⟨b, rfl, h.2⟩⟩; obtain ⟨k, h1, h2⟩ := h; cases h1; exact ⟨trivial, h2⟩) hd).trans (by simp only [true_and])
theorem fe_183 : (12, 181, 12, 25, 1532, 0) ∈ fldL := by decide +kernel
theorem g_183 {O : pO} {j n0 : Nat} {Q : pQ} {pc : Nat} {L : pL} {S : List pv} {n : Nat} {M : pM} {a : Nat} (hm : mO j = 12) (hd : decode (mB j) pc = .ok (.getfield 181, 3)) : J O j n0 Q pc L (vr (a + 1) :: S) n M = (ob n a = 12 ∧ J O j n0 Q (pc + 3) L (vr (M a 25).toNat :: S) n M) := J_get fe_183 (by rw [hm]) hd
theorem p_183 {O : pO} {j n0 : Nat} {Q : pQ} {pc : Nat} {L : pL} {S : List pv} {n : Nat} {M : pM} {a b : Nat} (hm : mO j = 12) (hi : (mY j).name = "<init>") (hd : decode (mB j) pc = .ok (.putfield 181, 3)) : J O j n0 Q pc L (vr b :: vr (a + 1) :: S) n M = (ob n a = 12 ∧ J O j n0 Q (pc + 3) L S n (st M a 25 (b : Int))) := (J_put (C := True) (x := (b : Int)) fe_183 (by rw [hm]) (Or.inr ⟨hi, hm.symm, rfl⟩) (fun y => by show (∃ k : Nat, vr b = vr k ∧ y = (k : Int)) ↔ _; refine ⟨fun h => ?_, fun h => ⟨b, rfl, h.2⟩⟩; obtain ⟨k, h1, h2⟩ := h; cases h1; exact ⟨trivial, h2⟩) hd).trans (by simp only [true_and])
theorem fe_184 : (12, 184, 12, 26, 1533, 0) ∈ fldL := by decide +kernel
theorem g_184 {O : pO} {j n0 : Nat} {Q : pQ} {pc : Nat} {L : pL} {S : List pv} {n : Nat} {M : pM} {a : Nat} (hm : mO j = 12) (hd : decode (mB j) pc = .ok (.getfield 184, 3)) : J O j n0 Q pc L (vr (a + 1) :: S) n M = (ob n a = 12 ∧ J O j n0 Q (pc + 3) L (vr (M a 26).toNat :: S) n M) := J_get fe_184 (by rw [hm]) hd
theorem p_184 {O : pO} {j n0 : Nat} {Q : pQ} {pc : Nat} {L : pL} {S : List pv} {n : Nat} {M : pM} {a b : Nat} (hm : mO j = 12) (hi : (mY j).name = "<init>") (hd : decode (mB j) pc = .ok (.putfield 184, 3)) : J O j n0 Q pc L (vr b :: vr (a + 1) :: S) n M = (ob n a = 12 ∧ J O j n0 Q (pc + 3) L S n (st M a 26 (b : Int))) := (J_put (C := True) (x := (b : Int)) fe_184 (by rw [hm]) (Or.inr ⟨hi, hm.symm, rfl⟩) (fun y => by show (∃ k : Nat, vr b = vr k ∧ y = (k : Int)) ↔ _; refine ⟨fun h => ?_, fun h => ⟨b, rfl, h.2⟩⟩; obtain ⟨k, h1, h2⟩ := h; cases h1; exact ⟨trivial, h2⟩) hd).trans (by simp only [true_and])
theorem fe_185 : (12, 187, 12, 27, 1534, 0) ∈ fldL := by decide +kernel
theorem g_185 {O : pO} {j n0 : Nat} {Q : pQ} {pc : Nat} {L : pL} {S : List pv} {n : Nat} {M : pM} {a : Nat} (hm : mO j = 12) (hd : decode (mB j) pc = .ok (.getfield 187, 3)) : J O j n0 Q pc L (vr (a + 1) :: S) n M = (ob n a = 12 ∧ J O j n0 Q (pc + 3) L (vr (M a 27).toNat :: S) n M) := J_get fe_185 (by rw [hm]) hd
theorem p_185 {O : pO} {j n0 : Nat} {Q : pQ} {pc : Nat} {L : pL} {S : List pv} {n : Nat} {M : pM} {a b : Nat} (hm : mO j = 12) (hi : (mY j).name = "<init>") (hd : decode (mB j) pc = .ok (.putfield 187, 3)) : J O j n0 Q pc L (vr b :: vr (a + 1) :: S) n M = (ob n a = 12 ∧ J O j n0 Q (pc + 3) L S n (st M a 27 (b : Int))) := (J_put (C := True) (x := (b : Int)) fe_185 (by rw [hm]) (Or.inr ⟨hi, hm.symm, rfl⟩) (fun y => by show (∃ k : Nat, vr b = vr k ∧ y = (k : Int)) ↔ _; refine ⟨fun h => ?_, fun h => ⟨b, rfl, h.2⟩⟩; obtain ⟨k, h1, h2⟩ := h; cases h1; exact ⟨trivial, h2⟩) hd).trans (by simp only [true_and])
theorem fe_186 : (12, 190, 12, 28, 1535, 0) ∈ fldL := by decide +kernel
theorem g_186 {O : pO} {j n0 : Nat} {Q : pQ} {pc : Nat} {L : pL} {S : List pv} {n : Nat} {M : pM} {a : Nat} (hm : mO j = 12) (hd : decode (mB j) pc = .ok (.getfield 190, 3)) : J O j n0 Q pc L (vr (a + 1) :: S) n M = (ob n a = 12 ∧ J O j n0 Q (pc + 3) L (vr (M a 28).toNat :: S) n M) := J_get fe_186 (by rw [hm]) hd
theorem p_186 {O : pO} {j n0 : Nat} {Q : pQ} {pc : Nat} {L : pL} {S : List pv} {n : Nat} {M : pM} {a b : Nat} (hm : mO j = 12) (hi : (mY j).name = "<init>") (hd : decode (mB j) pc = .ok (.putfield 190, 3)) : J O j n0 Q pc L (vr b :: vr (a + 1) :: S) n M = (ob n a = 12 ∧ J O j n0 Q (pc + 3) L S n (st M a 28 (b : Int))) := (J_put (C := True) (x := (b : Int)) fe_186 (by rw [hm]) (Or.inr ⟨hi, hm.symm, rfl⟩) (fun y => by show (∃ k : Nat, vr b = vr k ∧ y = (k : Int)) ↔ _; refine ⟨fun h => ?_, fun h => ⟨b, rfl, h.2⟩⟩; obtain ⟨k, h1, h2⟩ := h; cases h1; exact ⟨trivial, h2⟩) hd).trans (by simp only [true_and])
theorem fe_187 : (12, 193, 12, 29, 1536, 0) ∈ fldL := by decide +kernel
theorem g_187 {O : pO} {j n0 : Nat} {Q : pQ} {pc : Nat} {L : pL} {S : List pv} {n : Nat} {M : pM} {a : Nat} (hm : mO j = 12) (hd : decode (mB j) pc = .ok (.getfield 193, 3)) : J O j n0 Q pc L (vr (a + 1) :: S) n M = (ob n a = 12 ∧ J O j n0 Q (pc + 3) L (vr (M a 29).toNat :: S) n M) := J_get fe_187 (by rw [hm]) hd
theorem p_187 {O : pO} {j n0 : Nat} {Q : pQ} {pc : Nat} {L : pL} {S : List pv} {n : Nat} {M : pM} {a b : Nat} (hm : mO j = 12) (hi : (mY j).name = "<init>") (hd : decode (mB j) pc = .ok (.putfield 193, 3)) : J O j n0 Q pc L (vr b :: vr (a + 1) :: S) n M = (ob n a = 12 ∧ J O j n0 Q (pc + 3) L S n (st M a 29 (b : Int))) := (J_put (C := True) (x := (b : Int)) fe_187 (by rw [hm]) (Or.inr ⟨hi, hm.symm, rfl⟩) (fun y => by show (∃ k : Nat, vr b = vr k ∧ y = (k : Int)) ↔ _; refine ⟨fun h => ?_, fun h => ⟨b, rfl, h.2⟩⟩; obtain ⟨k, h1, h2⟩ := h; cases h1; exact ⟨trivial, h2⟩) hd).trans (by simp only [true_and])
theorem fe_188 : (12, 196, 12, 30, 1537, 0) ∈ fldL := by decide +kernel
theorem g_188 {O : pO} {j n0 : Nat} {Q : pQ} {pc : Nat} {L : pL} {S : List pv} {n : Nat} {M : pM} {a : Nat} (hm : mO j = 12) (hd : decode (mB j) pc = .ok (.getfield 196, 3)) : J O j n0 Q pc L (vr (a + 1) :: S) n M = (ob n a = 12 ∧ J O j n0 Q (pc + 3) L (vr (M a 30).toNat :: S) n M) := J_get fe_188 (by rw [hm]) hd
theorem p_188 {O : pO} {j n0 : Nat} {Q : pQ} {pc : Nat} {L : pL} {S : List pv} {n : Nat} {M : pM} {a b : Nat} (hm : mO j = 12) (hi : (mY j).name = "<init>") (hd : decode (mB j) pc = .ok (.putfield 196, 3)) : J O j n0 Q pc L (vr b :: vr (a + 1) :: S) n M = (ob n a = 12 ∧ J O j n0 Q (pc + 3) L S n (st M a 30 (b : Int))) := (J_put (C := True) (x := (b : Int)) fe_188 (by rw [hm]) (Or.inr ⟨hi, hm.symm, rfl⟩) (fun y => by show (∃ k : Nat, vr b = vr k ∧ y = (k : Int)) ↔ _; refine ⟨fun h => ?_, fun h => ⟨b, rfl, h.2⟩⟩; obtain ⟨k, h1, h2⟩ := h; cases h1; exact ⟨trivial, h2⟩) hd).trans (by simp only [true_and])
theorem fe_189 : (12, 146, 12, 31, 1538, 0) ∈ fldL := by decide +kernel
theorem g_189 {O : pO} {j n0 : Nat} {Q : pQ} {pc : Nat} {L : pL} {S : List pv} {n : Nat} {M : pM} {a : Nat} (hm : mO j = 12) (hd : decode (mB j) pc = .ok (.getfield 146, 3)) : J O j n0 Q pc L (vr (a + 1) :: S) n M = (ob n a = 12 ∧ J O j n0 Q (pc + 3) L (vr (M a 31).toNat :: S) n M) := J_get fe_189 (by rw [hm]) hd
theorem p_189 {O : pO} {j n0 : Nat} {Q : pQ} {pc : Nat} {L : pL} {S : List pv} {n : Nat} {M : pM} {a b : Nat} (hm : mO j = 12) (hi : (mY j).name = "<init>") (hd : decode (mB j) pc = .ok (.putfield 146, 3)) : J O j n0 Q pc L (vr b :: vr (a + 1) :: S) n M = (ob n a = 12 ∧ J O j n0 Q (pc + 3) L S n (st M a 31 (b : Int))) := (J_put (C := True) (x := (b : Int)) fe_189 (by rw [hm]) (Or.inr ⟨hi, hm.symm, rfl⟩) (fun y => by show (∃ k : Nat, vr b = vr k ∧ y = (k : Int)) ↔ _; refine ⟨fun h => ?_, fun h => ⟨b, rfl, h.2⟩⟩; obtain ⟨k, h1, h2⟩ := h; cases h1; exact ⟨trivial, h2⟩) hd).trans (by simp only [true_and])
theorem fe_190 : (12, 149, 12, 32, 1539, 0) ∈ fldL := by decide +kernel
theorem g_190 {O : pO} {j n0 : Nat} {Q : pQ} {pc : Nat} {L : pL} {S : List pv} {n : Nat} {M : pM} {a : Nat} (hm : mO j = 12) (hd : decode (mB j) pc = .ok (.getfield 149, 3)) : J O j n0 Q pc L (vr (a + 1) :: S) n M = (ob n a = 12 ∧ J O j n0 Q (pc + 3) L (vr (M a 32).toNat :: S) n M) := J_get fe_190 (by rw [hm]) hd
theorem p_190 {O : pO} {j n0 : Nat} {Q : pQ} {pc : Nat} {L : pL} {S : List pv} {n : Nat} {M : pM} {a b : Nat} (hm : mO j = 12) (hi : (mY j).name = "<init>") (hd : decode (mB j) pc = .ok (.putfield 149, 3)) : J O j n0 Q pc L (vr b :: vr (a + 1) :: S) n M = (ob n a = 12 ∧ J O j n0 Q (pc + 3) L S n (st M a 32 (b : Int))) := (J_put (C := True) (x := (b : Int)) fe_190 (by rw [hm]) (Or.inr ⟨hi, hm.symm, rfl⟩) (fun y => by show (∃ k : Nat, vr b = vr k ∧ y = (k : Int)) ↔ _; refine ⟨fun h => ?_, fun h => ⟨b, rfl, h.2⟩⟩; obtain ⟨k, h1, h2⟩ := h; cases h1; exact ⟨trivial, h2⟩) hd).trans (by simp only [true_and])
theorem fe_191 : (12, 142, 12, 33, 1540, 0) ∈ fldL := by decide +kernel
theorem g_191 {O : pO} {j n0 : Nat} {Q : pQ} {pc : Nat} {L : pL} {S : List pv} {n : Nat} {M : pM} {a : Nat} (hm : mO j = 12) (hd : decode (mB j) pc = .ok (.getfield 142, 3)) : J O j n0 Q pc L (vr (a + 1) :: S) n M = (ob n a = 12 ∧ J O j n0 Q (pc + 3) L (vr (M a 33).toNat :: S) n M) := J_get fe_191 (by rw [hm]) hd
theorem p_191 {O : pO} {j n0 : Nat} {Q : pQ} {pc : Nat} {L : pL} {S : List pv} {n : Nat} {M : pM} {a b : Nat} (hm : mO j = 12) (hi : (mY j).name = "<init>") (hd : decode (mB j) pc = .ok (.putfield 142, 3)) : J O j n0 Q pc L (vr b :: vr (a + 1) :: S) n M = (ob n a = 12 ∧ J O j n0 Q (pc + 3) L S n (st M a 33 (b : Int))) := (J_put (C := True) (x := (b : Int)) fe_191 (by rw [hm]) (Or.inr ⟨hi, hm.symm, rfl⟩) (fun y => by show (∃ k : Nat, vr b = vr k ∧ y = (k : Int)) ↔ _; refine ⟨fun h => ?_, fun h => ⟨b, rfl, h.2⟩⟩; obtain ⟨k, h1, h2⟩ := h; cases h1; exact ⟨trivial, h2⟩) hd).trans (by simp only [true_and])
theorem fe_192 : (12, 322, 12, 34, 1541, 0) ∈ fldL := by decide +kernel
theorem g_192 {O : pO} {j n0 : Nat} {Q : pQ} {pc : Nat} {L : pL} {S : List pv} {n : Nat} {M : pM} {a : Nat} (hm : mO j = 12) (hd : decode (mB j) pc = .ok (.getfield 322, 3)) : J O j n0 Q pc L (vr (a + 1) :: S) n M = (ob n a = 12 ∧ J O j n0 Q (pc + 3) L (vi (M a 34) :: S) n M) := J_get fe_192 (by rw [hm]) hd
theorem p_192 {O : pO} {j n0 : Nat} {Q : pQ} {pc : Nat} {L : pL} {S : List pv} {n : Nat} {M : pM} {a : Nat} {x : Int} (hm : mO j = 12) (hd : decode (mB j) pc = .ok (.putfield 322, 3)) : J O j n0 Q pc L (vi x :: vr (a + 1) :: S) n M = (ob n a = 12 ∧ J O j n0 Q (pc + 3) L S n (st M a 34 x)) := (J_put (C := True) (x := x) fe_192 (by rw [hm]) (Or.inl rfl) (fun y => by show (vi x = vi y) ↔ _; simp [eq_comm]) hd).trans (by simp only [true_and])
theorem fe_193 : (12, 124, 12, 35, 1542, 0) ∈ fldL := by decide +kernel
theorem g_193 {O : pO} {j n0 : Nat} {Q : pQ} {pc : Nat} {L : pL} {S : List pv} {n : Nat} {M : pM} {a : Nat} (hm : mO j = 12) (hd : decode (mB j) pc = .ok (.getfield 124, 3)) : J O j n0 Q pc L (vr (a + 1) :: S) n M = (ob n a = 12 ∧ J O j n0 Q (pc + 3) L (vi (M a 35) :: S) n M) := J_get fe_193 (by rw [hm]) hd
theorem p_193 {O : pO} {j n0 : Nat} {Q : pQ} {pc : Nat} {L : pL} {S : List pv} {n : Nat} {M : pM} {a : Nat} {x : Int} (hm : mO j = 12) (hd : decode (mB j) pc = .ok (.putfield 124, 3)) : J O j n0 Q pc L (vi x :: vr (a + 1) :: S) n M = (ob n a = 12 ∧ J O j n0 Q (pc + 3) L S n (st M a 35 x)) := (J_put (C := True) (x := x) fe_193 (by rw [hm]) (Or.inl rfl) (fun y => by show (vi x = vi y) ↔ _; simp [eq_comm]) hd).trans (by simp only [true_and])
theorem fe_194 : (12, 425, 12, 36, 1543, 0) ∈ fldL := by decide +kernel
theorem g_194 {O : pO} {j n0 : Nat} {Q : pQ} {pc : Nat} {L : pL} {S : List pv} {n : Nat} {M : pM} {a : Nat} (hm : mO j = 12) (hd : decode (mB j) pc = .ok (.getfield 425, 3)) : J O j n0 Q pc L (vr (a + 1) :: S) n M = (ob n a = 12 ∧ J O j n0 Q (pc + 3) L (vi (M a 36) :: S) n M) := J_get fe_194 (by rw [hm]) hd
theorem p_194 {O : pO} {j n0 : Nat} {Q : pQ} {pc : Nat} {L : pL} {S : List pv} {n : Nat} {M : pM} {a : Nat} {x : Int} (hm : mO j = 12) (hd : decode (mB j) pc = .ok (.putfield 425, 3)) : J O j n0 Q pc L (vi x :: vr (a + 1) :: S) n M = (ob n a = 12 ∧ J O j n0 Q (pc + 3) L S n (st M a 36 x)) := (J_put (C := True) (x := x) fe_194 (by rw [hm]) (Or.inl rfl) (fun y => by show (vi x = vi y) ↔ _; simp [eq_comm]) hd).trans (by simp only [true_and])
theorem fe_195 : (12, 428, 12, 37, 1544, 0) ∈ fldL := by decide +kernel
theorem g_195 {O : pO} {j n0 : Nat} {Q : pQ} {pc : Nat} {L : pL} {S : List pv} {n : Nat} {M : pM} {a : Nat} (hm : mO j = 12) (hd : decode (mB j) pc = .ok (.getfield 428, 3)) : J O j n0 Q pc L (vr (a + 1) :: S) n M = (ob n a = 12 ∧ J O j n0 Q (pc + 3) L (vi (M a 37) :: S) n M) := J_get fe_195 (by rw [hm]) hd
theorem p_195 {O : pO} {j n0 : Nat} {Q : pQ} {pc : Nat} {L : pL} {S : List pv} {n : Nat} {M : pM} {a : Nat} {x : Int} (hm : mO j = 12) (hd : decode (mB j) pc = .ok (.putfield 428, 3)) : J O j n0 Q pc L (vi x :: vr (a + 1) :: S) n M = (ob n a = 12 ∧ J O j n0 Q (pc + 3) L S n (st M a 37 x)) := (J_put (C := True) (x := x) fe_195 (by rw [hm]) (Or.inl rfl) (fun y => by show (vi x = vi y) ↔ _; simp [eq_comm]) hd).trans (by simp only [true_and])
theorem fe_196 : (12, 431, 12, 38, 1545, 0) ∈ fldL := by decide +kernel
theorem g_196 {O : pO} {j n0 : Nat} {Q : pQ} {pc : Nat} {L : pL} {S : List pv} {n : Nat} {M : pM} {a : Nat} (hm : mO j = 12) (hd : decode (mB j) pc = .ok (.getfield 431, 3)) : J O j n0 Q pc L (vr (a + 1) :: S) n M = (ob n a = 12 ∧ J O j n0 Q (pc + 3) L (vi (M a 38) :: S) n M) := J_get fe_196 (by rw [hm]) hd
theorem p_196 {O : pO} {j n0 : Nat} {Q : pQ} {pc : Nat} {L : pL} {S : List pv} {n : Nat} {M : pM} {a : Nat} {x : Int} (hm : mO j = 12) (hd : decode (mB j) pc = .ok (.putfield 431, 3)) : J O j n0 Q pc L (vi x :: vr (a + 1) :: S) n M = (ob n a = 12 ∧ J O j n0 Q (pc + 3) L S n (st M a 38 x)) := (J_put (C := True) (x := x) fe_196 (by rw [hm]) (Or.inl rfl) (fun y => by show (vi x = vi y) ↔ _; simp [eq_comm]) hd).trans (by simp only [true_and])
theorem fe_197 : (12, 200, 12, 39, 1546, 0) ∈ fldL := by decide +kernel
theorem g_197 {O : pO} {j n0 : Nat} {Q : pQ} {pc : Nat} {L : pL} {S : List pv} {n : Nat} {M : pM} {a : Nat} (hm : mO j = 12) (hd : decode (mB j) pc = .ok (.getfield 200, 3)) : J O j n0 Q pc L (vr (a + 1) :: S) n M = (ob n a = 12 ∧ J O j n0 Q (pc + 3) L (vr (M a 39).toNat :: S) n M) := J_get fe_197 (by rw [hm]) hd
theorem p_197 {O : pO} {j n0 : Nat} {Q : pQ} {pc : Nat} {L : pL} {S : List pv} {n : Nat} {M : pM} {a b : Nat} (hm : mO j = 12) (hi : (mY j).name = "<init>") (hd : decode (mB j) pc = .ok (.putfield 200, 3)) : J O j n0 Q pc L (vr b :: vr (a + 1) :: S) n M = (ob n a = 12 ∧ J O j n0 Q (pc + 3) L S n (st M a 39 (b : Int))) := (J_put (C := True) (x := (b : Int)) fe_197 (by rw [hm]) (Or.inr ⟨hi, hm.symm, rfl⟩) (fun y => by show (∃ k : Nat, vr b = vr k ∧ y = (k : Int)) ↔ _; refine ⟨fun h => ?_, fun h => ⟨b, rfl, h.2⟩⟩; obtain ⟨k, h1, h2⟩ := h; cases h1; exact ⟨trivial, h2⟩) hd).trans (by simp only [true_and])
theorem fe_198 : (12, 451, 12, 40, 1547, 0) ∈ fldL := by decide +kernel
theorem g_198 {O : pO} {j n0 : Nat} {Q : pQ} {pc : Nat} {L : pL} {S : List pv} {n : Nat} {M : pM} {a : Nat} (hm : mO j = 12) (hd : decode (mB j) pc = .ok (.getfield 451, 3)) : J O j n0 Q pc L (vr (a + 1) :: S) n M = (ob n a = 12 ∧ J O j n0 Q (pc + 3) L (vi (M a 40) :: S) n M) := J_get fe_198 (by rw [hm]) hd
theorem p_198 {O : pO} {j n0 : Nat} {Q : pQ} {pc : Nat} {L : pL} {S : List pv} {n : Nat} {M : pM} {a : Nat} {x : Int} (hm : mO j = 12) (hd : decode (mB j) pc = .ok (.putfield 451, 3)) : J O j n0 Q pc L (vi x :: vr (a + 1) :: S) n M = (ob n a = 12 ∧ J O j n0 Q (pc + 3) L S n (st M a 40 x)) := (J_put (C := True) (x := x) fe_198 (by rw [hm]) (Or.inl rfl) (fun y => by show (vi x = vi y) ↔ _; simp [eq_comm]) hd).trans (by simp only [true_and])
theorem fe_199 : (12, 458, 12, 41, 1548, 0) ∈ fldL := by decide +kernel
theorem g_199 {O : pO} {j n0 : Nat} {Q : pQ} {pc : Nat} {L : pL} {S : List pv} {n : Nat} {M : pM} {a : Nat} (hm : mO j = 12) (hd : decode (mB j) pc = .ok (.getfield 458, 3)) : J O j n0 Q pc L (vr (a + 1) :: S) n M = (ob n a = 12 ∧ J O j n0 Q (pc + 3) L (vi (M a 41) :: S) n M) := J_get fe_199 (by rw [hm]) hd
theorem p_199 {O : pO} {j n0 : Nat} {Q : pQ} {pc : Nat} {L : pL} {S : List pv} {n : Nat} {M : pM} {a : Nat} {x : Int} (hm : mO j = 12) (hd : decode (mB j) pc = .ok (.putfield 458, 3)) : J O j n0 Q pc L (vi x :: vr (a + 1) :: S) n M = (ob n a = 12 ∧ (x = 0 ∨ x = 1) ∧ J O j n0 Q (pc + 3) L S n (st M a 41 x)) := J_put fe_199 (by rw [hm]) (Or.inl rfl) (fun y => utz) hd
theorem fe_200 : (12, 204, 12, 42, 1549, 0) ∈ fldL := by decide +kernel
theorem g_200 {O : pO} {j n0 : Nat} {Q : pQ} {pc : Nat} {L : pL} {S : List pv} {n : Nat} {M : pM} {a : Nat} (hm : mO j = 12) (hd : decode (mB j) pc = .ok (.getfield 204, 3)) : J O j n0 Q pc L (vr (a + 1) :: S) n M = (ob n a = 12 ∧ J O j n0 Q (pc + 3) L (vr (M a 42).toNat :: S) n M) := J_get fe_200 (by rw [hm]) hd
theorem p_200 {O : pO} {j n0 : Nat} {Q : pQ} {pc : Nat} {L : pL} {S : List pv} {n : Nat} {M : pM} {a b : Nat} (hm : mO j = 12) (hi : (mY j).name = "<init>") (hd : decode (mB j) pc = .ok (.putfield 204, 3)) : J O j n0 Q pc L (vr b :: vr (a + 1) :: S) n M = (ob n a = 12 ∧ J O j n0 Q (pc + 3) L S n (st M a 42 (b : Int))) := (J_put (C := True) (x := (b : Int)) fe_200 (by rw [hm]) (Or.inr ⟨hi, hm.symm, rfl⟩) (fun y => by show (∃ k : Nat, vr b = vr k ∧ y = (k : Int)) ↔ _; refine ⟨fun h => ?_, fun h => ⟨b, rfl, h.2⟩⟩; obtain ⟨k, h1, h2⟩ := h; cases h1; exact ⟨trivial, h2⟩) hd).trans (by simp only [true_and])
theorem fe_201 : (12, 207, 12, 43, 1550, 0) ∈ fldL := by decide +kernel
theorem g_201 {O : pO} {j n0 : Nat} {Q : pQ} {pc : Nat} {L : pL} {S : List pv} {n : Nat} {M : pM} {a : Nat} (hm : mO j = 12) (hd : decode (mB j) pc = .ok (.getfield 207, 3)) : J O j n0 Q pc L (vr (a + 1) :: S) n M = (ob n a = 12 ∧ J O j n0 Q (pc + 3) L (vi (M a 43) :: S) n M) := J_get fe_201 (by rw [hm]) hd
theorem p_201 {O : pO} {j n0 : Nat} {Q : pQ} {pc : Nat} {L : pL} {S : List pv} {n : Nat} {M : pM} {a : Nat} {x : Int} (hm : mO j = 12) (hd : decode (mB j) pc = .ok (.putfield 207, 3)) : J O j n0 Q pc L (vi x :: vr (a + 1) :: S) n M = (ob n a = 12 ∧ J O j n0 Q (pc + 3) L S n (st M a 43 x)) := (J_put (C := True) (x := x) fe_201 (by rw [hm]) (Or.inl rfl) (fun y => by show (vi x = vi y) ↔ _; simp [eq_comm]) hd).trans (by simp only [true_and])
theorem fe_202 : (12, 210, 12, 44, 1551, 0) ∈ fldL := by decide +kernel
theorem g_202 {O : pO} {j n0 : Nat} {Q : pQ} {pc : Nat} {L : pL} {S : List pv} {n : Nat} {M : pM} {a : Nat} (hm : mO j = 12) (hd : decode (mB j) pc = .ok (.getfield 210, 3)) : J O j n0 Q pc L (vr (a + 1) :: S) n M = (ob n a = 12 ∧ J O j n0 Q (pc + 3) L (vi (M a 44) :: S) n M) := J_get fe_202 (by rw [hm]) hd
theorem p_202 {O : pO} {j n0 : Nat} {Q : pQ} {pc : Nat} {L : pL} {S : List pv} {n : Nat} {M : pM} {a : Nat} {x : Int} (hm : mO j = 12) (hd : decode (mB j) pc = .ok (.putfield 210, 3)) : J O j n0 Q pc L (vi x :: vr (a + 1) :: S) n M = (ob n a = 12 ∧ J O j n0 Q (pc + 3) L S n (st M a 44 x)) := (J_put (C := True) (x := x) fe_202 (by rw [hm]) (Or.inl rfl) (fun y => by show (vi x = vi y) ↔ _; simp [eq_comm]) hd).trans (by simp only [true_and])
theorem fe_203 : (12, 213, 12, 45, 1552, 0) ∈ fldL := by decide +kernel
theorem g_203 {O : pO} {j n0 : Nat} {Q : pQ} {pc : Nat} {L : pL} {S : List pv} {n : Nat} {M : pM} {a : Nat} (hm : mO j = 12) (hd : decode (mB j) pc = .ok (.getfield 213, 3)) : J O j n0 Q pc L (vr (a + 1) :: S) n M = (ob n a = 12 ∧ J O j n0 Q (pc + 3) L (vr (M a 45).toNat :: S) n M) := J_get fe_203 (by rw [hm]) hd
theorem p_203 {O : pO} {j n0 : Nat} {Q : pQ} {pc : Nat} {L : pL} {S : List pv} {n : Nat} {M : pM} {a b : Nat} (hm : mO j = 12) (hi : (mY j).name = "<init>") (hd : decode (mB j) pc = .ok (.putfield 213, 3)) : J O j n0 Q pc L (vr b :: vr (a + 1) :: S) n M = (ob n a = 12 ∧ J O j n0 Q (pc + 3) L S n (st M a 45 (b : Int))) := (J_put (C := True) (x := (b : Int)) fe_203 (by rw [hm]) (Or.inr ⟨hi, hm.symm, rfl⟩) (fun y => by show (∃ k : Nat, vr b = vr k ∧ y = (k : Int)) ↔ _; refine ⟨fun h => ?_, fun h => ⟨b, rfl, h.2⟩⟩; obtain ⟨k, h1, h2⟩ := h; cases h1; exact ⟨trivial, h2⟩) hd).trans (by simp only [true_and])
theorem fe_204 : (12, 476, 12, 46, 1553, 0) ∈ fldL := by decide +kernel
theorem g_204 {O : pO} {j n0 : Nat} {Q : pQ} {pc : Nat} {L : pL} {S : List pv} {n : Nat} {M : pM} {a : Nat} (hm : mO j = 12) (hd : decode (mB j) pc = .ok (.getfield 476, 3)) : J O j n0 Q pc L (vr (a + 1) :: S) n M = (ob n a = 12 ∧ J O j n0 Q (pc + 3) L (vi (M a 46) :: S) n M) := J_get fe_204 (by rw [hm]) hd
theorem p_204 {O : pO} {j n0 : Nat} {Q : pQ} {pc : Nat} {L : pL} {S : List pv} {n : Nat} {M : pM} {a : Nat} {x : Int} (hm : mO j = 12) (hd : decode (mB j) pc = .ok (.putfield 476, 3)) : J O j n0 Q pc L (vi x :: vr (a + 1) :: S) n M = (ob n a = 12 ∧ J O j n0 Q (pc + 3) L S n (st M a 46 x)) := (J_put (C := True) (x := x) fe_204 (by rw [hm]) (Or.inl rfl) (fun y => by show (vi x = vi y) ↔ _; simp [eq_comm]) hd).trans (by simp only [true_and])
theorem fe_205 : (12, 217, 12, 47, 1554, 0) ∈ fldL := by decide +kernel
theorem g_205 {O : pO} {j n0 : Nat} {Q : pQ} {pc : Nat} {L : pL} {S : List pv} {n : Nat} {M : pM} {a : Nat} (hm : mO j = 12) (hd : decode (mB j) pc = .ok (.getfield 217, 3)) : J O j n0 Q pc L (vr (a + 1) :: S) n M = (ob n a = 12 ∧ J O j n0 Q (pc + 3) L (vr (M a 47).toNat :: S) n M) := J_get fe_205 (by rw [hm]) hd
theorem p_205 {O : pO} {j n0 : Nat} {Q : pQ} {pc : Nat} {L : pL} {S : List pv} {n : Nat} {M : pM} {a b : Nat} (hm : mO j = 12) (hi : (mY j).name = "<init>") (hd : decode (mB j) pc = .ok (.putfield 217, 3)) : J O j n0 Q pc L (vr b :: vr (a + 1) :: S) n M = (ob n a = 12 ∧ J O j n0 Q (pc + 3) L S n (st M a 47 (b : Int))) := (J_put (C := True) (x := (b : Int)) fe_205 (by rw [hm]) (Or.inr ⟨hi, hm.symm, rfl⟩) (fun y => by show (∃ k : Nat, vr b = vr k ∧ y = (k : Int)) ↔ _; refine ⟨fun h => ?_, fun h => ⟨b, rfl, h.2⟩⟩; obtain ⟨k, h1, h2⟩ := h; cases h1; exact ⟨trivial, h2⟩) hd).trans (by simp only [true_and])
theorem fe_206 : (12, 220, 12, 48, 1555, 0) ∈ fldL := by decide +kernel
theorem g_206 {O : pO} {j n0 : Nat} {Q : pQ} {pc : Nat} {L : pL} {S : List pv} {n : Nat} {M : pM} {a : Nat} (hm : mO j = 12) (hd : decode (mB j) pc = .ok (.getfield 220, 3)) : J O j n0 Q pc L (vr (a + 1) :: S) n M = (ob n a = 12 ∧ J O j n0 Q (pc + 3) L (vr (M a 48).toNat :: S) n M) := J_get fe_206 (by rw [hm]) hd
theorem p_206 {O : pO} {j n0 : Nat} {Q : pQ} {pc : Nat} {L : pL} {S : List pv} {n : Nat} {M : pM} {a b : Nat} (hm : mO j = 12) (hi : (mY j).name = "<init>") (hd : decode (mB j) pc = .ok (.putfield 220, 3)) : J O j n0 Q pc L (vr b :: vr (a + 1) :: S) n M = (ob n a = 12 ∧ J O j n0 Q (pc + 3) L S n (st M a 48 (b : Int))) := (J_put (C := True) (x := (b : Int)) fe_206 (by rw [hm]) (Or.inr ⟨hi, hm.symm, rfl⟩) (fun y => by show (∃ k : Nat, vr b = vr k ∧ y = (k : Int)) ↔ _; refine ⟨fun h => ?_, fun h => ⟨b, rfl, h.2⟩⟩; obtain ⟨k, h1, h2⟩ := h; cases h1; exact ⟨trivial, h2⟩) hd).trans (by simp only [true_and])
theorem fe_207 : (12, 223, 12, 49, 1556, 0) ∈ fldL := by decide +kernel
theorem g_207 {O : pO} {j n0 : Nat} {Q : pQ} {pc : Nat} {L : pL} {S : List pv} {n : Nat} {M : pM} {a : Nat} (hm : mO j = 12) (hd : decode (mB j) pc = .ok (.getfield 223, 3)) : J O j n0 Q pc L (vr (a + 1) :: S) n M = (ob n a = 12 ∧ J O j n0 Q (pc + 3) L (vr (M a 49).toNat :: S) n M) := J_get fe_207 (by rw [hm]) hd
theorem p_207 {O : pO} {j n0 : Nat} {Q : pQ} {pc : Nat} {L : pL} {S : List pv} {n : Nat} {M : pM} {a b : Nat} (hm : mO j = 12) (hi : (mY j).name = "<init>") (hd : decode (mB j) pc = .ok (.putfield 223, 3)) : J O j n0 Q pc L (vr b :: vr (a + 1) :: S) n M = (ob n a = 12 ∧ J O j n0 Q (pc + 3) L S n (st M a 49 (b : Int))) := (J_put (C := True) (x := (b : Int)) fe_207 (by rw [hm]) (Or.inr ⟨hi, hm.symm, rfl⟩) (fun y => by show (∃ k : Nat, vr b = vr k ∧ y = (k : Int)) ↔ _; refine ⟨fun h => ?_, fun h => ⟨b, rfl, h.2⟩⟩; obtain ⟨k, h1, h2⟩ := h; cases h1; exact ⟨trivial, h2⟩) hd).trans (by simp only [true_and])
theorem fe_208 : (12, 226, 12, 50, 1557, 0) ∈ fldL := by decide +kernel
theorem g_208 {O : pO} {j n0 : Nat} {Q : pQ} {pc : Nat} {L : pL} {S : List pv} {n : Nat} {M : pM} {a : Nat} (hm : mO j = 12) (hd : decode (mB j) pc = .ok (.getfield 226, 3)) : J O j n0 Q pc L (vr (a + 1) :: S) n M = (ob n a = 12 ∧ J O j n0 Q (pc + 3) L (vr (M a 50).toNat :: S) n M) := J_get fe_208 (by rw [hm]) hd
theorem p_208 {O : pO} {j n0 : Nat} {Q : pQ} {pc : Nat} {L : pL} {S : List pv} {n : Nat} {M : pM} {a b : Nat} (hm : mO j = 12) (hi : (mY j).name = "<init>") (hd : decode (mB j) pc = .ok (.putfield 226, 3)) : J O j n0 Q pc L (vr b :: vr (a + 1) :: S) n M = (ob n a = 12 ∧ J O j n0 Q (pc + 3) L S n (st M a 50 (b : Int))) := (J_put (C := True) (x := (b : Int)) fe_208 (by rw [hm]) (Or.inr ⟨hi, hm.symm, rfl⟩) (fun y => by show (∃ k : Nat, vr b = vr k ∧ y = (k : Int)) ↔ _; refine ⟨fun h => ?_, fun h => ⟨b, rfl, h.2⟩⟩; obtain ⟨k, h1, h2⟩ := h; cases h1; exact ⟨trivial, h2⟩) hd).trans (by simp only [true_and])
theorem fe_209 : (12, 229, 12, 51, 1558, 0) ∈ fldL := by decide +kernel
theorem g_209 {O : pO} {j n0 : Nat} {Q : pQ} {pc : Nat} {L : pL} {S : List pv} {n : Nat} {M : pM} {a : Nat} (hm : mO j = 12) (hd : decode (mB j) pc = .ok (.getfield 229, 3)) : J O j n0 Q pc L (vr (a + 1) :: S) n M = (ob n a = 12 ∧ J O j n0 Q (pc + 3) L (vr (M a 51).toNat :: S) n M) := J_get fe_209 (by rw [hm]) hd
theorem p_209 {O : pO} {j n0 : Nat} {Q : pQ} {pc : Nat} {L : pL} {S : List pv} {n : Nat} {M : pM} {a b : Nat} (hm : mO j = 12) (hi : (mY j).name = "<init>") (hd : decode (mB j) pc = .ok (.putfield 229, 3)) : J O j n0 Q pc L (vr b :: vr (a + 1) :: S) n M = (ob n a = 12 ∧ J O j n0 Q (pc + 3) L S n (st M a 51 (b : Int))) := (J_put (C := True) (x := (b : Int)) fe_209 (by rw [hm]) (Or.inr ⟨hi, hm.symm, rfl⟩) (fun y => by show (∃ k : Nat, vr b = vr k ∧ y = (k : Int)) ↔ _; refine ⟨fun h => ?_, fun h => ⟨b, rfl, h.2⟩⟩; obtain ⟨k, h1, h2⟩ := h; cases h1; exact ⟨trivial, h2⟩) hd).trans (by simp only [true_and])
theorem fe_210 : (12, 497, 12, 52, 1559, 0) ∈ fldL := by decide +kernel
theorem g_210 {O : pO} {j n0 : Nat} {Q : pQ} {pc : Nat} {L : pL} {S : List pv} {n : Nat} {M : pM} {a : Nat} (hm : mO j = 12) (hd : decode (mB j) pc = .ok (.getfield 497, 3)) : J O j n0 Q pc L (vr (a + 1) :: S) n M = (ob n a = 12 ∧ J O j n0 Q (pc + 3) L (vi (M a 52) :: S) n M) := J_get fe_210 (by rw [hm]) hd
theorem p_210 {O : pO} {j n0 : Nat} {Q : pQ} {pc : Nat} {L : pL} {S : List pv} {n : Nat} {M : pM} {a : Nat} {x : Int} (hm : mO j = 12) (hd : decode (mB j) pc = .ok (.putfield 497, 3)) : J O j n0 Q pc L (vi x :: vr (a + 1) :: S) n M = (ob n a = 12 ∧ J O j n0 Q (pc + 3) L S n (st M a 52 x)) := (J_put (C := True) (x := x) fe_210 (by rw [hm]) (Or.inl rfl) (fun y => by show (vi x = vi y) ↔ _; simp [eq_comm]) hd).trans (by simp only [true_and])
theorem fe_211 : (12, 232, 12, 53, 1560, 0) ∈ fldL := by decide +kernel
theorem g_211 {O : pO} {j n0 : Nat} {Q : pQ} {pc : Nat} {L : pL} {S : List pv} {n : Nat} {M : pM} {a : Nat} (hm : mO j = 12) (hd : decode (mB j) pc = .ok (.getfield 232, 3)) : J O j n0 Q pc L (vr (a + 1) :: S) n M = (ob n a = 12 ∧ J O j n0 Q (pc + 3) L (vi (M a 53) :: S) n M) := J_get fe_211 (by rw [hm]) hd
theorem p_211 {O : pO} {j n0 : Nat} {Q : pQ} {pc : Nat} {L : pL} {S : List pv} {n : Nat} {M : pM} {a : Nat} {x : Int} (hm : mO j = 12) (hd : decode (mB j) pc = .ok (.putfield 232, 3)) : J O j n0 Q pc L (vi x :: vr (a + 1) :: S) n M = (ob n a = 12 ∧ J O j n0 Q (pc + 3) L S n (st M a 53 x)) := (J_put (C := True) (x := x) fe_211 (by rw [hm]) (Or.inl rfl) (fun y => by show (vi x = vi y) ↔ _; simp [eq_comm]) hd).trans (by simp only [true_and])
theorem fe_212 : (12, 235, 12, 54, 1561, 0) ∈ fldL := by decide +kernel
theorem g_212 {O : pO} {j n0 : Nat} {Q : pQ} {pc : Nat} {L : pL} {S : List pv} {n : Nat} {M : pM} {a : Nat} (hm : mO j = 12) (hd : decode (mB j) pc = .ok (.getfield 235, 3)) : J O j n0 Q pc L (vr (a + 1) :: S) n M = (ob n a = 12 ∧ J O j n0 Q (pc + 3) L (vi (M a 54) :: S) n M) := J_get fe_212 (by rw [hm]) hd
theorem p_212 {O : pO} {j n0 : Nat} {Q : pQ} {pc : Nat} {L : pL} {S : List pv} {n : Nat} {M : pM} {a : Nat} {x : Int} (hm : mO j = 12) (hd : decode (mB j) pc = .ok (.putfield 235, 3)) : J O j n0 Q pc L (vi x :: vr (a + 1) :: S) n M = (ob n a = 12 ∧ J O j n0 Q (pc + 3) L S n (st M a 54 x)) := (J_put (C := True) (x := x) fe_212 (by rw [hm]) (Or.inl rfl) (fun y => by show (vi x = vi y) ↔ _; simp [eq_comm]) hd).trans (by simp only [true_and])
theorem fe_213 : (12, 238, 12, 55, 1562, 0) ∈ fldL := by decide +kernel
theorem g_213 {O : pO} {j n0 : Nat} {Q : pQ} {pc : Nat} {L : pL} {S : List pv} {n : Nat} {M : pM} {a : Nat} (hm : mO j = 12) (hd : decode (mB j) pc = .ok (.getfield 238, 3)) : J O j n0 Q pc L (vr (a + 1) :: S) n M = (ob n a = 12 ∧ J O j n0 Q (pc + 3) L (vi (M a 55) :: S) n M) := J_get fe_213 (by rw [hm]) hd
theorem p_213 {O : pO} {j n0 : Nat} {Q : pQ} {pc : Nat} {L : pL} {S : List pv} {n : Nat} {M : pM} {a : Nat} {x : Int} (hm : mO j = 12) (hd : decode (mB j) pc = .ok (.putfield 238, 3)) : J O j n0 Q pc L (vi x :: vr (a + 1) :: S) n M = (ob n a = 12 ∧ J O j n0 Q (pc + 3) L S n (st M a 55 x)) := (J_put (C := True) (x := x) fe_213 (by rw [hm]) (Or.inl rfl) (fun y => by show (vi x = vi y) ↔ _; simp [eq_comm]) hd).trans (by simp only [true_and])
theorem fe_214 : (12, 241, 12, 56, 1563, 0) ∈ fldL := by decide +kernel
theorem g_214 {O : pO} {j n0 : Nat} {Q : pQ} {pc : Nat} {L : pL} {S : List pv} {n : Nat} {M : pM} {a : Nat} (hm : mO j = 12) (hd : decode (mB j) pc = .ok (.getfield 241, 3)) : J O j n0 Q pc L (vr (a + 1) :: S) n M = (ob n a = 12 ∧ J O j n0 Q (pc + 3) L (vr (M a 56).toNat :: S) n M) := J_get fe_214 (by rw [hm]) hd
theorem p_214 {O : pO} {j n0 : Nat} {Q : pQ} {pc : Nat} {L : pL} {S : List pv} {n : Nat} {M : pM} {a b : Nat} (hm : mO j = 12) (hi : (mY j).name = "<init>") (hd : decode (mB j) pc = .ok (.putfield 241, 3)) : J O j n0 Q pc L (vr b :: vr (a + 1) :: S) n M = (ob n a = 12 ∧ J O j n0 Q (pc + 3) L S n (st M a 56 (b : Int))) := (J_put (C := True) (x := (b : Int)) fe_214 (by rw [hm]) (Or.inr ⟨hi, hm.symm, rfl⟩) (fun y => by show (∃ k : Nat, vr b = vr k ∧ y = (k : Int)) ↔ _; refine ⟨fun h => ?_, fun h => ⟨b, rfl, h.2⟩⟩; obtain ⟨k, h1, h2⟩ := h; cases h1; exact ⟨trivial, h2⟩) hd).trans (by simp only [true_and])
theorem fe_215 : (12, 244, 12, 57, 1564, 0) ∈ fldL := by decide +kernel
theorem g_215 {O : pO} {j n0 : Nat} {Q : pQ} {pc : Nat} {L : pL} {S : List pv} {n : Nat} {M : pM} {a : Nat} (hm : mO j = 12) (hd : decode (mB j) pc = .ok (.getfield 244, 3)) : J O j n0 Q pc L (vr (a + 1) :: S) n M = (ob n a = 12 ∧ J O j n0 Q (pc + 3) L (vr (M a 57).toNat :: S) n M) := J_get fe_215 (by rw [hm]) hd
theorem p_215 {O : pO} {j n0 : Nat} {Q : pQ} {pc : Nat} {L : pL} {S : List pv} {n : Nat} {M : pM} {a b : Nat} (hm : mO j = 12) (hi : (mY j).name = "<init>") (hd : decode (mB j) pc = .ok (.putfield 244, 3)) : J O j n0 Q pc L (vr b :: vr (a + 1) :: S) n M = (ob n a = 12 ∧ J O j n0 Q (pc + 3) L S n (st M a 57 (b : Int))) := (J_put (C := True) (x := (b : Int)) fe_215 (by rw [hm]) (Or.inr ⟨hi, hm.symm, rfl⟩) (fun y => by show (∃ k : Nat, vr b = vr k ∧ y = (k : Int)) ↔ _; refine ⟨fun h => ?_, fun h => ⟨b, rfl, h.2⟩⟩; obtain ⟨k, h1, h2⟩ := h; cases h1; exact ⟨trivial, h2⟩) hd).trans (by simp only [true_and])
theorem fe_216 : (12, 247, 12, 58, 1565, 0) ∈ fldL := by decide +kernel
theorem g_216 {O : pO} {j n0 : Nat} {Q : pQ} {pc : Nat} {L : pL} {S : List pv} {n : Nat} {M : pM} {a : Nat} (hm : mO j = 12) (hd : decode (mB j) pc = .ok (.getfield 247, 3)) : J O j n0 Q pc L (vr (a + 1) :: S) n M = (ob n a = 12 ∧ J O j n0 Q (pc + 3) L (vr (M a 58).toNat :: S) n M) := J_get fe_216 (by rw [hm]) hd
theorem p_216 {O : pO} {j n0 : Nat} {Q : pQ} {pc : Nat} {L : pL} {S : List pv} {n : Nat} {M : pM} {a b : Nat} (hm : mO j = 12) (hi : (mY j).name = "<init>") (hd : decode (mB j) pc = .ok (.putfield 247, 3)) : J O j n0 Q pc L (vr b :: vr (a + 1) :: S) n M = (ob n a = 12 ∧ J O j n0 Q (pc + 3) L S n (st M a 58 (b : Int))) := (J_put (C := True) (x := (b : Int)) fe_216 (by rw [hm]) (Or.inr ⟨hi, hm.symm, rfl⟩) (fun y => by show (∃ k : Nat, vr b = vr k ∧ y = (k : Int)) ↔ _; refine ⟨fun h => ?_, fun h => ⟨b, rfl, h.2⟩⟩; obtain ⟨k, h1, h2⟩ := h; cases h1; exact ⟨trivial, h2⟩) hd).trans (by simp only [true_and])
theorem fe_217 : (12, 250, 12, 59, 1566, 0) ∈ fldL := by decide +kernel
theorem g_217 {O : pO} {j n0 : Nat} {Q : pQ} {pc : Nat} {L : pL} {S : List pv} {n : Nat} {M : pM} {a : Nat} (hm : mO j = 12) (hd : decode (mB j) pc = .ok (.getfield 250, 3)) : J O j n0 Q pc L (vr (a + 1) :: S) n M = (ob n a = 12 ∧ J O j n0 Q (pc + 3) L (vr (M a 59).toNat :: S) n M) := J_get fe_217 (by rw [hm]) hd
theorem p_217 {O : pO} {j n0 : Nat} {Q : pQ} {pc : Nat} {L : pL} {S : List pv} {n : Nat} {M : pM} {a b : Nat} (hm : mO j = 12) (hi : (mY j).name = "<init>") (hd : decode (mB j) pc = .ok (.putfield 250, 3)) : J O j n0 Q pc L (vr b :: vr (a + 1) :: S) n M = (ob n a = 12 ∧ J O j n0 Q (pc + 3) L S n (st M a 59 (b : Int))) := (J_put (C := True) (x := (b : Int)) fe_217 (by rw [hm]) (Or.inr ⟨hi, hm.symm, rfl⟩) (fun y => by show (∃ k : Nat, vr b = vr k ∧ y = (k : Int)) ↔ _; refine ⟨fun h => ?_, fun h => ⟨b, rfl, h.2⟩⟩; obtain ⟨k, h1, h2⟩ := h; cases h1; exact ⟨trivial, h2⟩) hd).trans (by simp only [true_and])
theorem fe_218 : (12, 253, 12, 60, 1567, 0) ∈ fldL := by decide +kernel
theorem g_218 {O : pO} {j n0 : Nat} {Q : pQ} {pc : Nat} {L : pL} {S : List pv} {n : Nat} {M : pM} {a : Nat} (hm : mO j = 12) (hd : decode (mB j) pc = .ok (.getfield 253, 3)) : J O j n0 Q pc L (vr (a + 1) :: S) n M = (ob n a = 12 ∧ J O j n0 Q (pc + 3) L (vr (M a 60).toNat :: S) n M) := J_get fe_218 (by rw [hm]) hd
theorem p_218 {O : pO} {j n0 : Nat} {Q : pQ} {pc : Nat} {L : pL} {S : List pv} {n : Nat} {M : pM} {a b : Nat} (hm : mO j = 12) (hi : (mY j).name = "<init>") (hd : decode (mB j) pc = .ok (.putfield 253, 3)) : J O j n0 Q pc L (vr b :: vr (a + 1) :: S) n M = (ob n a = 12 ∧ J O j n0 Q (pc + 3) L S n (st M a 60 (b : Int))) := (J_put (C := True) (x := (b : Int)) fe_218 (by rw [hm]) (Or.inr ⟨hi, hm.symm, rfl⟩) (fun y => by show (∃ k : Nat, vr b = vr k ∧ y = (k : Int)) ↔ _; refine ⟨fun h => ?_, fun h => ⟨b, rfl, h.2⟩⟩; obtain ⟨k, h1, h2⟩ := h; cases h1; exact ⟨trivial, h2⟩) hd).trans (by simp only [true_and])
theorem fe_219 : (12, 256, 12, 61, 1568, 0) ∈ fldL := by decide +kernel
theorem g_219 {O : pO} {j n0 : Nat} {Q : pQ} {pc : Nat} {L : pL} {S : List pv} {n : Nat} {M : pM} {a : Nat} (hm : mO j = 12) (hd : decode (mB j) pc = .ok (.getfield 256, 3)) : J O j n0 Q pc L (vr (a + 1) :: S) n M = (ob n a = 12 ∧ J O j n0 Q (pc + 3) L (vr (M a 61).toNat :: S) n M) := J_get fe_219 (by rw [hm]) hd
theorem p_219 {O : pO} {j n0 : Nat} {Q : pQ} {pc : Nat} {L : pL} {S : List pv} {n : Nat} {M : pM} {a b : Nat} (hm : mO j = 12) (hi : (mY j).name = "<init>") (hd : decode (mB j) pc = .ok (.putfield 256, 3)) : J O j n0 Q pc L (vr b :: vr (a + 1) :: S) n M = (ob n a = 12 ∧ J O j n0 Q (pc + 3) L S n (st M a 61 (b : Int))) := (J_put (C := True) (x := (b : Int)) fe_219 (by rw [hm]) (Or.inr ⟨hi, hm.symm, rfl⟩) (fun y => by show (∃ k : Nat, vr b = vr k ∧ y = (k : Int)) ↔ _; refine ⟨fun h => ?_, fun h => ⟨b, rfl, h.2⟩⟩; obtain ⟨k, h1, h2⟩ := h; cases h1; exact ⟨trivial, h2⟩) hd).trans (by simp only [true_and])
theorem fe_220 : (12, 259, 12, 62, 1569, 0) ∈ fldL := by decide +kernel
theorem g_220 {O : pO} {j n0 : Nat} {Q : pQ} {pc : Nat} {L : pL} {S : List pv} {n : Nat} {M : pM} {a : Nat} (hm : mO j = 12) (hd : decode (mB j) pc = .ok (.getfield 259, 3)) : J O j n0 Q pc L (vr (a + 1) :: S) n M = (ob n a = 12 ∧ J O j n0 Q (pc + 3) L (vr (M a 62).toNat :: S) n M) := J_get fe_220 (by rw [hm]) hd
theorem p_220 {O : pO} {j n0 : Nat} {Q : pQ} {pc : Nat} {L : pL} {S : List pv} {n : Nat} {M : pM} {a b : Nat} (hm : mO j = 12) (hi : (mY j).name = "<init>") (hd : decode (mB j) pc = .ok (.putfield 259, 3)) : J O j n0 Q pc L (vr b :: vr (a + 1) :: S) n M = (ob n a = 12 ∧ J O j n0 Q (pc + 3) L S n (st M a 62 (b : Int))) := (J_put (C := True) (x := (b : Int)) fe_220 (by rw [hm]) (Or.inr ⟨hi, hm.symm, rfl⟩) (fun y => by show (∃ k : Nat, vr b = vr k ∧ y = (k : Int)) ↔ _; refine ⟨fun h => ?_, fun h => ⟨b, rfl, h.2⟩⟩; obtain ⟨k, h1, h2⟩ := h; cases h1; exact ⟨trivial, h2⟩) hd).trans (by simp only [true_and])
theorem fe_221 : (12, 262, 12, 63, 1570, 0) ∈ fldL := by decide +kernel
theorem g_221 {O : pO} {j n0 : Nat} {Q : pQ} {pc : Nat} {L : pL} {S : List pv} {n : Nat} {M : pM} {a : Nat} (hm : mO j = 12) (hd : decode (mB j) pc = .ok (.getfield 262, 3)) : J O j n0 Q pc L (vr (a + 1) :: S) n M = (ob n a = 12 ∧ J O j n0 Q (pc + 3) L (vr (M a 63).toNat :: S) n M) := J_get fe_221 (by rw [hm]) hd
theorem p_221 {O : pO} {j n0 : Nat} {Q : pQ} {pc : Nat} {L : pL} {S : List pv} {n : Nat} {M : pM} {a b : Nat} (hm : mO j = 12) (hi : (mY j).name = "<init>") (hd : decode (mB j) pc = .ok (.putfield 262, 3)) : J O j n0 Q pc L (vr b :: vr (a + 1) :: S) n M = (ob n a = 12 ∧ J O j n0 Q (pc + 3) L S n (st M a 63 (b : Int))) := (J_put (C := True) (x := (b : Int)) fe_221 (by rw [hm]) (Or.inr ⟨hi, hm.symm, rfl⟩) (fun y => by show (∃ k : Nat, vr b = vr k ∧ y = (k : Int)) ↔ _; refine ⟨fun h => ?_, fun h => ⟨b, rfl, h.2⟩⟩; obtain ⟨k, h1, h2⟩ := h; cases h1; exact ⟨trivial, h2⟩) hd).trans (by simp only [true_and])
theorem fe_222 : (12, 328, 12, 64, 1571, 0) ∈ fldL := by decide +kernel
theorem g_222 {O : pO} {j n0 : Nat} {Q : pQ} {pc : Nat} {L : pL} {S : List pv} {n : Nat} {M : pM} {a : Nat} (hm : mO j = 12) (hd : decode (mB j) pc = .ok (.getfield 328, 3)) : J O j n0 Q pc L (vr (a + 1) :: S) n M = (ob n a = 12 ∧ J O j n0 Q (pc + 3) L (vi (M a 64) :: S) n M) := J_get fe_222 (by rw [hm]) hd
theorem p_222 {O : pO} {j n0 : Nat} {Q : pQ} {pc : Nat} {L : pL} {S : List pv} {n : Nat} {M : pM} {a : Nat} {x : Int} (hm : mO j = 12) (hd : decode (mB j) pc = .ok (.putfield 328, 3)) : J O j n0 Q pc L (vi x :: vr (a + 1) :: S) n M = (ob n a = 12 ∧ J O j n0 Q (pc + 3) L S n (st M a 64 x)) := (J_put (C := True) (x := x) fe_222 (by rw [hm]) (Or.inl rfl) (fun y => by show (vi x = vi y) ↔ _; simp [eq_comm]) hd).trans (by simp only [true_and])
theorem fe_223 : (12, 331, 12, 65, 1572, 0) ∈ fldL := by decide +kernel
theorem g_223 {O : pO} {j n0 : Nat} {Q : pQ} {pc : Nat} {L : pL} {S : List pv} {n : Nat} {M : pM} {a : Nat} (hm : mO j = 12) (hd : decode (mB j) pc = .ok (.getfield 331, 3)) : J O j n0 Q pc L (vr (a + 1) :: S) n M = (ob n a = 12 ∧ J O j n0 Q (pc + 3) L (vi (M a 65) :: S) n M) := J_get fe_223 (by rw [hm]) hd
theorem p_223 {O : pO} {j n0 : Nat} {Q : pQ} {pc : Nat} {L : pL} {S : List pv} {n : Nat} {M : pM} {a : Nat} {x : Int} (hm : mO j = 12) (hd : decode (mB j) pc = .ok (.putfield 331, 3)) : J O j n0 Q pc L (vi x :: vr (a + 1) :: S) n M = (ob n a = 12 ∧ J O j n0 Q (pc + 3) L S n (st M a 65 x)) := (J_put (C := True) (x := x) fe_223 (by rw [hm]) (Or.inl rfl) (fun y => by show (vi x = vi y) ↔ _; simp [eq_comm]) hd).trans (by simp only [true_and])
theorem fe_224 : (12, 506, 12, 66, 1573, 0) ∈ fldL := by decide +kernel
theorem g_224 {O : pO} {j n0 : Nat} {Q : pQ} {pc : Nat} {L : pL} {S : List pv} {n : Nat} {M : pM} {a : Nat} (hm : mO j = 12) (hd : decode (mB j) pc = .ok (.getfield 506, 3)) : J O j n0 Q pc L (vr (a + 1) :: S) n M = (ob n a = 12 ∧ J O j n0 Q (pc + 3) L (vi (M a 66) :: S) n M) := J_get fe_224 (by rw [hm]) hd
theorem p_224 {O : pO} {j n0 : Nat} {Q : pQ} {pc : Nat} {L : pL} {S : List pv} {n : Nat} {M : pM} {a : Nat} {x : Int} (hm : mO j = 12) (hd : decode (mB j) pc = .ok (.putfield 506, 3)) : J O j n0 Q pc L (vi x :: vr (a + 1) :: S) n M = (ob n a = 12 ∧ J O j n0 Q (pc + 3) L S n (st M a 66 x)) := (J_put (C := True) (x := x) fe_224 (by rw [hm]) (Or.inl rfl) (fun y => by show (vi x = vi y) ↔ _; simp [eq_comm]) hd).trans (by simp only [true_and])
theorem fe_225 : (12, 510, 12, 67, 1574, 0) ∈ fldL := by decide +kernel
theorem g_225 {O : pO} {j n0 : Nat} {Q : pQ} {pc : Nat} {L : pL} {S : List pv} {n : Nat} {M : pM} {a : Nat} (hm : mO j = 12) (hd : decode (mB j) pc = .ok (.getfield 510, 3)) : J O j n0 Q pc L (vr (a + 1) :: S) n M = (ob n a = 12 ∧ J O j n0 Q (pc + 3) L (vi (M a 67) :: S) n M) := J_get fe_225 (by rw [hm]) hd
theorem p_225 {O : pO} {j n0 : Nat} {Q : pQ} {pc : Nat} {L : pL} {S : List pv} {n : Nat} {M : pM} {a : Nat} {x : Int} (hm : mO j = 12) (hd : decode (mB j) pc = .ok (.putfield 510, 3)) : J O j n0 Q pc L (vi x :: vr (a + 1) :: S) n M = (ob n a = 12 ∧ J O j n0 Q (pc + 3) L S n (st M a 67 x)) := (J_put (C := True) (x := x) fe_225 (by rw [hm]) (Or.inl rfl) (fun y => by show (vi x = vi y) ↔ _; simp [eq_comm]) hd).trans (by simp only [true_and])
theorem fe_226 : (12, 265, 12, 68, 1575, 0) ∈ fldL := by decide +kernel
theorem g_226 {O : pO} {j n0 : Nat} {Q : pQ} {pc : Nat} {L : pL} {S : List pv} {n : Nat} {M : pM} {a : Nat} (hm : mO j = 12) (hd : decode (mB j) pc = .ok (.getfield 265, 3)) : J O j n0 Q pc L (vr (a + 1) :: S) n M = (ob n a = 12 ∧ J O j n0 Q (pc + 3) L (vr (M a 68).toNat :: S) n M) := J_get fe_226 (by rw [hm]) hd
theorem p_226 {O : pO} {j n0 : Nat} {Q : pQ} {pc : Nat} {L : pL} {S : List pv} {n : Nat} {M : pM} {a b : Nat} (hm : mO j = 12) (hi : (mY j).name = "<init>") (hd : decode (mB j) pc = .ok (.putfield 265, 3)) : J O j n0 Q pc L (vr b :: vr (a + 1) :: S) n M = (ob n a = 12 ∧ J O j n0 Q (pc + 3) L S n (st M a 68 (b : Int))) := (J_put (C := True) (x := (b : Int)) fe_226 (by rw [hm]) (Or.inr ⟨hi, hm.symm, rfl⟩) (fun y => by show (∃ k : Nat, vr b = vr k ∧ y = (k : Int)) ↔ _; refine ⟨fun h => ?_, fun h => ⟨b, rfl, h.2⟩⟩; obtain ⟨k, h1, h2⟩ := h; cases h1; exact ⟨trivial, h2⟩) hd).trans (by simp only [true_and])
theorem fe_227 : (12, 268, 12, 69, 1576, 0) ∈ fldL := by decide +kernel
theorem g_227 {O : pO} {j n0 : Nat} {Q : pQ} {pc : Nat} {L : pL} {S : List pv} {n : Nat} {M : pM} {a : Nat} (hm : mO j = 12) (hd : decode (mB j) pc = .ok (.getfield 268, 3)) : J O j n0 Q pc L (vr (a + 1) :: S) n M = (ob n a = 12 ∧ J O j n0 Q (pc + 3) L (vr (M a 69).toNat :: S) n M) := J_get fe_227 (by rw [hm]) hd
theorem p_227 {O : pO} {j n0 : Nat} {Q : pQ} {pc : Nat} {L : pL} {S : List pv} {n : Nat} {M : pM} {a b : Nat} (hm : mO j = 12) (hi : (mY j).name = "<init>") (hd : decode (mB j) pc = .ok (.putfield 268, 3)) : J O j n0 Q pc L (vr b :: vr (a + 1) :: S) n M = (ob n a = 12 ∧ J O j n0 Q (pc + 3) L S n (st M a 69 (b : Int))) := (J_put (C := True) (x := (b : Int)) fe_227 (by rw [hm]) (Or.inr ⟨hi, hm.symm, rfl⟩) (fun y => by show (∃ k : Nat, vr b = vr k ∧ y = (k : Int)) ↔ _; refine ⟨fun h => ?_, fun h => ⟨b, rfl, h.2⟩⟩; obtain ⟨k, h1, h2⟩ := h; cases h1; exact ⟨trivial, h2⟩) hd).trans (by simp only [true_and])
theorem fe_228 : (12, 271, 12, 70, 1577, 0) ∈ fldL := by decide +kernel
theorem g_228 {O : pO} {j n0 : Nat} {Q : pQ} {pc : Nat} {L : pL} {S : List pv} {n : Nat} {M : pM} {a : Nat} (hm : mO j = 12) (hd : decode (mB j) pc = .ok (.getfield 271, 3)) : J O j n0 Q pc L (vr (a + 1) :: S) n M = (ob n a = 12 ∧ J O j n0 Q (pc + 3) L (vr (M a 70).toNat :: S) n M) := J_get fe_228 (by rw [hm]) hd
theorem p_228 {O : pO} {j n0 : Nat} {Q : pQ} {pc : Nat} {L : pL} {S : List pv} {n : Nat} {M : pM} {a b : Nat} (hm : mO j = 12) (hi : (mY j).name = "<init>") (hd : decode (mB j) pc = .ok (.putfield 271, 3)) : J O j n0 Q pc L (vr b :: vr (a + 1) :: S) n M = (ob n a = 12 ∧ J O j n0 Q (pc + 3) L S n (st M a 70 (b : Int))) := (J_put (C := True) (x := (b : Int)) fe_228 (by rw [hm]) (Or.inr ⟨hi, hm.symm, rfl⟩) (fun y => by show (∃ k : Nat, vr b = vr k ∧ y = (k : Int)) ↔ _; refine ⟨fun h => ?_, fun h => ⟨b, rfl, h.2⟩⟩; obtain ⟨k, h1, h2⟩ := h; cases h1; exact ⟨trivial, h2⟩) hd).trans (by simp only [true_and])
theorem fe_229 : (12, 274, 12, 71, 1578, 0) ∈ fldL := by decide +kernel
theorem g_229 {O : pO} {j n0 : Nat} {Q : pQ} {pc : Nat} {L : pL} {S : List pv} {n : Nat} {M : pM} {a : Nat} (hm : mO j = 12) (hd : decode (mB j) pc = .ok (.getfield 274, 3)) : J O j n0 Q pc L (vr (a + 1) :: S) n M = (ob n a = 12 ∧ J O j n0 Q (pc + 3) L (vr (M a 71).toNat :: S) n M) := J_get fe_229 (by rw [hm]) hd
theorem p_229 {O : pO} {j n0 : Nat} {Q : pQ} {pc : Nat} {L : pL} {S : List pv} {n : Nat} {M : pM} {a b : Nat} (hm : mO j = 12) (hi : (mY j).name = "<init>") (hd : decode (mB j) pc = .ok (.putfield 274, 3)) : J O j n0 Q pc L (vr b :: vr (a + 1) :: S) n M = (ob n a = 12 ∧ J O j n0 Q (pc + 3) L S n (st M a 71 (b : Int))) := (J_put (C := True) (x := (b : Int)) fe_229 (by rw [hm]) (Or.inr ⟨hi, hm.symm, rfl⟩) (fun y => by show (∃ k : Nat, vr b = vr k ∧ y = (k : Int)) ↔ _; refine ⟨fun h => ?_, fun h => ⟨b, rfl, h.2⟩⟩; obtain ⟨k, h1, h2⟩ := h; cases h1; exact ⟨trivial, h2⟩) hd).trans (by simp only [true_and])
theorem fe_230 : (12, 516, 12, 72, 1579, 0) ∈ fldL := by decide +kernel
theorem g_230 {O : pO} {j n0 : Nat} {Q : pQ} {pc : Nat} {L : pL} {S : List pv} {n : Nat} {M : pM} {a : Nat} (hm : mO j = 12) (hd : decode (mB j) pc = .ok (.getfield 516, 3)) : J O j n0 Q pc L (vr (a + 1) :: S) n M = (ob n a = 12 ∧ J O j n0 Q (pc + 3) L (vi (M a 72) :: S) n M) := J_get fe_230 (by rw [hm]) hd
theorem p_230 {O : pO} {j n0 : Nat} {Q : pQ} {pc : Nat} {L : pL} {S : List pv} {n : Nat} {M : pM} {a : Nat} {x : Int} (hm : mO j = 12) (hd : decode (mB j) pc = .ok (.putfield 516, 3)) : J O j n0 Q pc L (vi x :: vr (a + 1) :: S) n M = (ob n a = 12 ∧ J O j n0 Q (pc + 3) L S n (st M a 72 x)) := (J_put (C := True) (x := x) fe_230 (by rw [hm]) (Or.inl rfl) (fun y => by show (vi x = vi y) ↔ _; simp [eq_comm]) hd).trans (by simp only [true_and])
theorem fe_231 : (12, 277, 12, 73, 1580, 0) ∈ fldL := by decide +kernel
theorem g_231 {O : pO} {j n0 : Nat} {Q : pQ} {pc : Nat} {L : pL} {S : List pv} {n : Nat} {M : pM} {a : Nat} (hm : mO j = 12) (hd : decode (mB j) pc = .ok (.getfield 277, 3)) : J O j n0 Q pc L (vr (a + 1) :: S) n M = (ob n a = 12 ∧ J O j n0 Q (pc + 3) L (vr (M a 73).toNat :: S) n M) := J_get fe_231 (by rw [hm]) hd
theorem p_231 {O : pO} {j n0 : Nat} {Q : pQ} {pc : Nat} {L : pL} {S : List pv} {n : Nat} {M : pM} {a b : Nat} (hm : mO j = 12) (hi : (mY j).name = "<init>") (hd : decode (mB j) pc = .ok (.putfield 277, 3)) : J O j n0 Q pc L (vr b :: vr (a + 1) :: S) n M = (ob n a = 12 ∧ J O j n0 Q (pc + 3) L S n (st M a 73 (b : Int))) := (J_put (C := True) (x := (b : Int)) fe_231 (by rw [hm]) (Or.inr ⟨hi, hm.symm, rfl⟩) (fun y => by show (∃ k : Nat, vr b = vr k ∧ y = (k : Int)) ↔ _; refine ⟨fun h => ?_, fun h => ⟨b, rfl, h.2⟩⟩; obtain ⟨k, h1, h2⟩ := h; cases h1; exact ⟨trivial, h2⟩) hd).trans (by simp only [true_and])
theorem fe_232 : (12, 280, 12, 74, 1581, 0) ∈ fldL := by decide +kernel
theorem g_232 {O : pO} {j n0 : Nat} {Q : pQ} {pc : Nat} {L : pL} {S : List pv} {n : Nat} {M : pM} {a : Nat} (hm : mO j = 12) (hd : decode (mB j) pc = .ok (.getfield 280, 3)) : J O j n0 Q pc L (vr (a + 1) :: S) n M = (ob n a = 12 ∧ J O j n0 Q (pc + 3) L (vr (M a 74).toNat :: S) n M) := J_get fe_232 (by rw [hm]) hd
theorem p_232 {O : pO} {j n0 : Nat} {Q : pQ} {pc : Nat} {L : pL} {S : List pv} {n : Nat} {M : pM} {a b : Nat} (hm : mO j = 12) (hi : (mY j).name = "<init>") (hd : decode (mB j) pc = .ok (.putfield 280, 3)) : J O j n0 Q pc L (vr b :: vr (a + 1) :: S) n M = (ob n a = 12 ∧ J O j n0 Q (pc + 3) L S n (st M a 74 (b : Int))) := (J_put (C := True) (x := (b : Int)) fe_232 (by rw [hm]) (Or.inr ⟨hi, hm.symm, rfl⟩) (fun y => by show (∃ k : Nat, vr b = vr k ∧ y = (k : Int)) ↔ _; refine ⟨fun h => ?_, fun h => ⟨b, rfl, h.2⟩⟩; obtain ⟨k, h1, h2⟩ := h; cases h1; exact ⟨trivial, h2⟩) hd).trans (by simp only [true_and])
theorem fe_233 : (12, 283, 12, 75, 1582, 0) ∈ fldL := by decide +kernel
theorem g_233 {O : pO} {j n0 : Nat} {Q : pQ} {pc : Nat} {L : pL} {S : List pv} {n : Nat} {M : pM} {a : Nat} (hm : mO j = 12) (hd : decode (mB j) pc = .ok (.getfield 283, 3)) : J O j n0 Q pc L (vr (a + 1) :: S) n M = (ob n a = 12 ∧ J O j n0 Q (pc + 3) L (vr (M a 75).toNat :: S) n M) := J_get fe_233 (by rw [hm]) hd
theorem p_233 {O : pO} {j n0 : Nat} {Q : pQ} {pc : Nat} {L : pL} {S : List pv} {n : Nat} {M : pM} {a b : Nat} (hm : mO j = 12) (hi : (mY j).name = "<init>") (hd : decode (mB j) pc = .ok (.putfield 283, 3)) : J O j n0 Q pc L (vr b :: vr (a + 1) :: S) n M = (ob n a = 12 ∧ J O j n0 Q (pc + 3) L S n (st M a 75 (b : Int))) := (J_put (C := True) (x := (b : Int)) fe_233 (by rw [hm]) (Or.inr ⟨hi, hm.symm, rfl⟩) (fun y => by show (∃ k : Nat, vr b = vr k ∧ y = (k : Int)) ↔ _; refine ⟨fun h => ?_, fun h => ⟨b, rfl, h.2⟩⟩; obtain ⟨k, h1, h2⟩ := h; cases h1; exact ⟨trivial, h2⟩) hd).trans (by simp only [true_and])
theorem fe_234 : (12, 286, 12, 76, 1583, 0) ∈ fldL := by decide +kernel
theorem g_234 {O : pO} {j n0 : Nat} {Q : pQ} {pc : Nat} {L : pL} {S : List pv} {n : Nat} {M : pM} {a : Nat} (hm : mO j = 12) (hd : decode (mB j) pc = .ok (.getfield 286, 3)) : J O j n0 Q pc L (vr (a + 1) :: S) n M = (ob n a = 12 ∧ J O j n0 Q (pc + 3) L (vr (M a 76).toNat :: S) n M) := J_get fe_234 (by rw [hm]) hd
theorem p_234 {O : pO} {j n0 : Nat} {Q : pQ} {pc : Nat} {L : pL} {S : List pv} {n : Nat} {M : pM} {a b : Nat} (hm : mO j = 12) (hi : (mY j).name = "<init>") (hd : decode (mB j) pc = .ok (.putfield 286, 3)) : J O j n0 Q pc L (vr b :: vr (a + 1) :: S) n M = (ob n a = 12 ∧ J O j n0 Q (pc + 3) L S n (st M a 76 (b : Int))) := (J_put (C := True) (x := (b : Int)) fe_234 (by rw [hm]) (Or.inr ⟨hi, hm.symm, rfl⟩) (fun y => by show (∃ k : Nat, vr b = vr k ∧ y = (k : Int)) ↔ _; refine ⟨fun h => ?_, fun h => ⟨b, rfl, h.2⟩⟩; obtain ⟨k, h1, h2⟩ := h; cases h1; exact ⟨trivial, h2⟩) hd).trans (by simp only [true_and])
theorem fe_235 : (12, 289, 12, 77, 1584, 0) ∈ fldL := by decide +kernel
theorem g_235 {O : pO} {j n0 : Nat} {Q : pQ} {pc : Nat} {L : pL} {S : List pv} {n : Nat} {M : pM} {a : Nat} (hm : mO j = 12) (hd : decode (mB j) pc = .ok (.getfield 289, 3)) : J O j n0 Q pc L (vr (a + 1) :: S) n M = (ob n a = 12 ∧ J O j n0 Q (pc + 3) L (vr (M a 77).toNat :: S) n M) := J_get fe_235 (by rw [hm]) hd
theorem p_235 {O : pO} {j n0 : Nat} {Q : pQ} {pc : Nat} {L : pL} {S : List pv} {n : Nat} {M : pM} {a b : Nat} (hm : mO j = 12) (hi : (mY j).name = "<init>") (hd : decode (mB j) pc = .ok (.putfield 289, 3)) : J O j n0 Q pc L (vr b :: vr (a + 1) :: S) n M = (ob n a = 12 ∧ J O j n0 Q (pc + 3) L S n (st M a 77 (b : Int))) := (J_put (C := True) (x := (b : Int)) fe_235 (by rw [hm]) (Or.inr ⟨hi, hm.symm, rfl⟩) (fun y => by show (∃ k : Nat, vr b = vr k ∧ y = (k : Int)) ↔ _; refine ⟨fun h => ?_, fun h => ⟨b, rfl, h.2⟩⟩; obtain ⟨k, h1, h2⟩ := h; cases h1; exact ⟨trivial, h2⟩) hd).trans (by simp only [true_and])
theorem fe_236 : (12, 292, 12, 78, 1585, 0) ∈ fldL := by decide +kernel
theorem g_236 {O : pO} {j n0 : Nat} {Q : pQ} {pc : Nat} {L : pL} {S : List pv} {n : Nat} {M : pM} {a : Nat} (hm : mO j = 12) (hd : decode (mB j) pc = .ok (.getfield 292, 3)) : J O j n0 Q pc L (vr (a + 1) :: S) n M = (ob n a = 12 ∧ J O j n0 Q (pc + 3) L (vr (M a 78).toNat :: S) n M) := J_get fe_236 (by rw [hm]) hd
theorem p_236 {O : pO} {j n0 : Nat} {Q : pQ} {pc : Nat} {L : pL} {S : List pv} {n : Nat} {M : pM} {a b : Nat} (hm : mO j = 12) (hi : (mY j).name = "<init>") (hd : decode (mB j) pc = .ok (.putfield 292, 3)) : J O j n0 Q pc L (vr b :: vr (a + 1) :: S) n M = (ob n a = 12 ∧ J O j n0 Q (pc + 3) L S n (st M a 78 (b : Int))) := (J_put (C := True) (x := (b : Int)) fe_236 (by rw [hm]) (Or.inr ⟨hi, hm.symm, rfl⟩) (fun y => by show (∃ k : Nat, vr b = vr k ∧ y = (k : Int)) ↔ _; refine ⟨fun h => ?_, fun h => ⟨b, rfl, h.2⟩⟩; obtain ⟨k, h1, h2⟩ := h; cases h1; exact ⟨trivial, h2⟩) hd).trans (by simp only [true_and])
theorem fe_237 : (12, 295, 12, 79, 1586, 0) ∈ fldL := by decide +kernel
theorem g_237 {O : pO} {j n0 : Nat} {Q : pQ} {pc : Nat} {L : pL} {S : List pv} {n : Nat} {M : pM} {a : Nat} (hm : mO j = 12) (hd : decode (mB j) pc = .ok (.getfield 295, 3)) : J O j n0 Q pc L (vr (a + 1) :: S) n M = (ob n a = 12 ∧ J O j n0 Q (pc + 3) L (vr (M a 79).toNat :: S) n M) := J_get fe_237 (by rw [hm]) hd
theorem p_237 {O : pO} {j n0 : Nat} {Q : pQ} {pc : Nat} {L : pL} {S : List pv} {n : Nat} {M : pM} {a b : Nat} (hm : mO j = 12) (hi : (mY j).name = "<init>") (hd : decode (mB j) pc = .ok (.putfield 295, 3)) : J O j n0 Q pc L (vr b :: vr (a + 1) :: S) n M = (ob n a = 12 ∧ J O j n0 Q (pc + 3) L S n (st M a 79 (b : Int))) := (J_put (C := True) (x := (b : Int)) fe_237 (by rw [hm]) (Or.inr ⟨hi, hm.symm, rfl⟩) (fun y => by show (∃ k : Nat, vr b = vr k ∧ y = (k : Int)) ↔ _; refine ⟨fun h => ?_, fun h => ⟨b, rfl, h.2⟩⟩; obtain ⟨k, h1, h2⟩ := h; cases h1; exact ⟨trivial, h2⟩) hd).trans (by simp only [true_and])
theorem fe_238 : (12, 558, 12, 80, 1587, 0) ∈ fldL := by decide +kernel
theorem g_238 {O : pO} {j n0 : Nat} {Q : pQ} {pc : Nat} {L : pL} {S : List pv} {n : Nat} {M : pM} {a : Nat} (hm : mO j = 12) (hd : decode (mB j) pc = .ok (.getfield 558, 3)) : J O j n0 Q pc L (vr (a + 1) :: S) n M = (ob n a = 12 ∧ J O j n0 Q (pc + 3) L (vi (M a 80) :: S) n M) := J_get fe_238 (by rw [hm]) hd
theorem p_238 {O : pO} {j n0 : Nat} {Q : pQ} {pc : Nat} {L : pL} {S : List pv} {n : Nat} {M : pM} {a : Nat} {x : Int} (hm : mO j = 12) (hd : decode (mB j) pc = .ok (.putfield 558, 3)) : J O j n0 Q pc L (vi x :: vr (a + 1) :: S) n M = (ob n a = 12 ∧ J O j n0 Q (pc + 3) L S n (st M a 80 x)) := (J_put (C := True) (x := x) fe_238 (by rw [hm]) (Or.inl rfl) (fun y => by show (vi x = vi y) ↔ _; simp [eq_comm]) hd).trans (by simp only [true_and])
theorem fe_239 : (12, 561, 12, 81, 1588, 0) ∈ fldL := by decide +kernel
theorem g_239 {O : pO} {j n0 : Nat} {Q : pQ} {pc : Nat} {L : pL} {S : List pv} {n : Nat} {M : pM} {a : Nat} (hm : mO j = 12) (hd : decode (mB j) pc = .ok (.getfield 561, 3)) : J O j n0 Q pc L (vr (a + 1) :: S) n M = (ob n a = 12 ∧ J O j n0 Q (pc + 3) L (vi (M a 81) :: S) n M) := J_get fe_239 (by rw [hm]) hd
theorem p_239 {O : pO} {j n0 : Nat} {Q : pQ} {pc : Nat} {L : pL} {S : List pv} {n : Nat} {M : pM} {a : Nat} {x : Int} (hm : mO j = 12) (hd : decode (mB j) pc = .ok (.putfield 561, 3)) : J O j n0 Q pc L (vi x :: vr (a + 1) :: S) n M = (ob n a = 12 ∧ J O j n0 Q (pc + 3) L S n (st M a 81 x)) := (J_put (C := True) (x := x) fe_239 (by rw [hm]) (Or.inl rfl) (fun y => by show (vi x = vi y) ↔ _; simp [eq_comm]) hd).trans (by simp only [true_and])
theorem fe_240 : (12, 564, 12, 82, 1589, 0) ∈ fldL := by decide +kernel
theorem g_240 {O : pO} {j n0 : Nat} {Q : pQ} {pc : Nat} {L : pL} {S : List pv} {n : Nat} {M : pM} {a : Nat} (hm : mO j = 12) (hd : decode (mB j) pc = .ok (.getfield 564, 3)) : J O j n0 Q pc L (vr (a + 1) :: S) n M = (ob n a = 12 ∧ J O j n0 Q (pc + 3) L (vi (M a 82) :: S) n M) := J_get fe_240 (by rw [hm]) hd
theorem p_240 {O : pO} {j n0 : Nat} {Q : pQ} {pc : Nat} {L : pL} {S : List pv} {n : Nat} {M : pM} {a : Nat} {x : Int} (hm : mO j = 12) (hd : decode (mB j) pc = .ok (.putfield 564, 3)) : J O j n0 Q pc L (vi x :: vr (a + 1) :: S) n M = (ob n a = 12 ∧ J O j n0 Q (pc + 3) L S n (st M a 82 x)) := (J_put (C := True) (x := x) fe_240 (by rw [hm]) (Or.inl rfl) (fun y => by show (vi x = vi y) ↔ _; simp [eq_comm]) hd).trans (by simp only [true_and])
theorem fe_241 : (12, 576, 12, 83, 1590, 0) ∈ fldL := by decide +kernel
theorem g_241 {O : pO} {j n0 : Nat} {Q : pQ} {pc : Nat} {L : pL} {S : List pv} {n : Nat} {M : pM} {a : Nat} (hm : mO j = 12) (hd : decode (mB j) pc = .ok (.getfield 576, 3)) : J O j n0 Q pc L (vr (a + 1) :: S) n M = (ob n a = 12 ∧ J O j n0 Q (pc + 3) L (vi (M a 83) :: S) n M) := J_get fe_241 (by rw [hm]) hd
theorem p_241 {O : pO} {j n0 : Nat} {Q : pQ} {pc : Nat} {L : pL} {S : List pv} {n : Nat} {M : pM} {a : Nat} {x : Int} (hm : mO j = 12) (hd : decode (mB j) pc = .ok (.putfield 576, 3)) : J O j n0 Q pc L (vi x :: vr (a + 1) :: S) n M = (ob n a = 12 ∧ J O j n0 Q (pc + 3) L S n (st M a 83 x)) := (J_put (C := True) (x := x) fe_241 (by rw [hm]) (Or.inl rfl) (fun y => by show (vi x = vi y) ↔ _; simp [eq_comm]) hd).trans (by simp only [true_and])
theorem fe_242 : (12, 573, 12, 84, 1591, 0) ∈ fldL := by decide +kernel
theorem g_242 {O : pO} {j n0 : Nat} {Q : pQ} {pc : Nat} {L : pL} {S : List pv} {n : Nat} {M : pM} {a : Nat} (hm : mO j = 12) (hd : decode (mB j) pc = .ok (.getfield 573, 3)) : J O j n0 Q pc L (vr (a + 1) :: S) n M = (ob n a = 12 ∧ J O j n0 Q (pc + 3) L (vi (M a 84) :: S) n M) := J_get fe_242 (by rw [hm]) hd
theorem p_242 {O : pO} {j n0 : Nat} {Q : pQ} {pc : Nat} {L : pL} {S : List pv} {n : Nat} {M : pM} {a : Nat} {x : Int} (hm : mO j = 12) (hd : decode (mB j) pc = .ok (.putfield 573, 3)) : J O j n0 Q pc L (vi x :: vr (a + 1) :: S) n M = (ob n a = 12 ∧ J O j n0 Q (pc + 3) L S n (st M a 84 x)) := (J_put (C := True) (x := x) fe_242 (by rw [hm]) (Or.inl rfl) (fun y => by show (vi x = vi y) ↔ _; simp [eq_comm]) hd).trans (by simp only [true_and])
theorem fe_243 : (12, 570, 12, 85, 1592, 0) ∈ fldL := by decide +kernel
theorem g_243 {O : pO} {j n0 : Nat} {Q : pQ} {pc : Nat} {L : pL} {S : List pv} {n : Nat} {M : pM} {a : Nat} (hm : mO j = 12) (hd : decode (mB j) pc = .ok (.getfield 570, 3)) : J O j n0 Q pc L (vr (a + 1) :: S) n M = (ob n a = 12 ∧ J O j n0 Q (pc + 3) L (vi (M a 85) :: S) n M) := J_get fe_243 (by rw [hm]) hd
theorem p_243 {O : pO} {j n0 : Nat} {Q : pQ} {pc : Nat} {L : pL} {S : List pv} {n : Nat} {M : pM} {a : Nat} {x : Int} (hm : mO j = 12) (hd : decode (mB j) pc = .ok (.putfield 570, 3)) : J O j n0 Q pc L (vi x :: vr (a + 1) :: S) n M = (ob n a = 12 ∧ (x = 0 ∨ x = 1) ∧ J O j n0 Q (pc + 3) L S n (st M a 85 x)) := J_put fe_243 (by rw [hm]) (Or.inl rfl) (fun y => utz) hd
theorem fe_244 : (12, 600, 12, 86, 1593, 0) ∈ fldL := by decide +kernel
theorem g_244 {O : pO} {j n0 : Nat} {Q : pQ} {pc : Nat} {L : pL} {S : List pv} {n : Nat} {M : pM} {a : Nat} (hm : mO j = 12) (hd : decode (mB j) pc = .ok (.getfield 600, 3)) : J O j n0 Q pc L (vr (a + 1) :: S) n M = (ob n a = 12 ∧ J O j n0 Q (pc + 3) L (vi (M a 86) :: S) n M) := J_get fe_244 (by rw [hm]) hd
theorem p_244 {O : pO} {j n0 : Nat} {Q : pQ} {pc : Nat} {L : pL} {S : List pv} {n : Nat} {M : pM} {a : Nat} {x : Int} (hm : mO j = 12) (hd : decode (mB j) pc = .ok (.putfield 600, 3)) : J O j n0 Q pc L (vi x :: vr (a + 1) :: S) n M = (ob n a = 12 ∧ J O j n0 Q (pc + 3) L S n (st M a 86 x)) := (J_put (C := True) (x := x) fe_244 (by rw [hm]) (Or.inl rfl) (fun y => by show (vi x = vi y) ↔ _; simp [eq_comm]) hd).trans (by simp only [true_and])
theorem fe_245 : (12, 603, 12, 87, 1594, 0) ∈ fldL := by decide +kernel
theorem g_245 {O : pO} {j n0 : Nat} {Q : pQ} {pc : Nat} {L : pL} {S : List pv} {n : Nat} {M : pM} {a : Nat} (hm : mO j = 12) (hd : decode (mB j) pc = .ok (.getfield 603, 3)) : J O j n0 Q pc L (vr (a + 1) :: S) n M = (ob n a = 12 ∧ J O j n0 Q (pc + 3) L (vi (M a 87) :: S) n M) := J_get fe_245 (by rw [hm]) hd
theorem p_245 {O : pO} {j n0 : Nat} {Q : pQ} {pc : Nat} {L : pL} {S : List pv} {n : Nat} {M : pM} {a : Nat} {x : Int} (hm : mO j = 12) (hd : decode (mB j) pc = .ok (.putfield 603, 3)) : J O j n0 Q pc L (vi x :: vr (a + 1) :: S) n M = (ob n a = 12 ∧ J O j n0 Q (pc + 3) L S n (st M a 87 x)) := (J_put (C := True) (x := x) fe_245 (by rw [hm]) (Or.inl rfl) (fun y => by show (vi x = vi y) ↔ _; simp [eq_comm]) hd).trans (by simp only [true_and])
theorem fe_246 : (12, 606, 12, 88, 1595, 0) ∈ fldL := by decide +kernel
theorem g_246 {O : pO} {j n0 : Nat} {Q : pQ} {pc : Nat} {L : pL} {S : List pv} {n : Nat} {M : pM} {a : Nat} (hm : mO j = 12) (hd : decode (mB j) pc = .ok (.getfield 606, 3)) : J O j n0 Q pc L (vr (a + 1) :: S) n M = (ob n a = 12 ∧ J O j n0 Q (pc + 3) L (vi (M a 88) :: S) n M) := J_get fe_246 (by rw [hm]) hd
theorem p_246 {O : pO} {j n0 : Nat} {Q : pQ} {pc : Nat} {L : pL} {S : List pv} {n : Nat} {M : pM} {a : Nat} {x : Int} (hm : mO j = 12) (hd : decode (mB j) pc = .ok (.putfield 606, 3)) : J O j n0 Q pc L (vi x :: vr (a + 1) :: S) n M = (ob n a = 12 ∧ J O j n0 Q (pc + 3) L S n (st M a 88 x)) := (J_put (C := True) (x := x) fe_246 (by rw [hm]) (Or.inl rfl) (fun y => by show (vi x = vi y) ↔ _; simp [eq_comm]) hd).trans (by simp only [true_and])
theorem fe_247 : (12, 609, 12, 89, 1596, 0) ∈ fldL := by decide +kernel
theorem g_247 {O : pO} {j n0 : Nat} {Q : pQ} {pc : Nat} {L : pL} {S : List pv} {n : Nat} {M : pM} {a : Nat} (hm : mO j = 12) (hd : decode (mB j) pc = .ok (.getfield 609, 3)) : J O j n0 Q pc L (vr (a + 1) :: S) n M = (ob n a = 12 ∧ J O j n0 Q (pc + 3) L (vi (M a 89) :: S) n M) := J_get fe_247 (by rw [hm]) hd
theorem p_247 {O : pO} {j n0 : Nat} {Q : pQ} {pc : Nat} {L : pL} {S : List pv} {n : Nat} {M : pM} {a : Nat} {x : Int} (hm : mO j = 12) (hd : decode (mB j) pc = .ok (.putfield 609, 3)) : J O j n0 Q pc L (vi x :: vr (a + 1) :: S) n M = (ob n a = 12 ∧ J O j n0 Q (pc + 3) L S n (st M a 89 x)) := (J_put (C := True) (x := x) fe_247 (by rw [hm]) (Or.inl rfl) (fun y => by show (vi x = vi y) ↔ _; simp [eq_comm]) hd).trans (by simp only [true_and])
theorem fe_248 : (12, 612, 12, 90, 1597, 0) ∈ fldL := by decide +kernel
theorem g_248 {O : pO} {j n0 : Nat} {Q : pQ} {pc : Nat} {L : pL} {S : List pv} {n : Nat} {M : pM} {a : Nat} (hm : mO j = 12) (hd : decode (mB j) pc = .ok (.getfield 612, 3)) : J O j n0 Q pc L (vr (a + 1) :: S) n M = (ob n a = 12 ∧ J O j n0 Q (pc + 3) L (vi (M a 90) :: S) n M) := J_get fe_248 (by rw [hm]) hd
theorem p_248 {O : pO} {j n0 : Nat} {Q : pQ} {pc : Nat} {L : pL} {S : List pv} {n : Nat} {M : pM} {a : Nat} {x : Int} (hm : mO j = 12) (hd : decode (mB j) pc = .ok (.putfield 612, 3)) : J O j n0 Q pc L (vi x :: vr (a + 1) :: S) n M = (ob n a = 12 ∧ J O j n0 Q (pc + 3) L S n (st M a 90 x)) := (J_put (C := True) (x := x) fe_248 (by rw [hm]) (Or.inl rfl) (fun y => by show (vi x = vi y) ↔ _; simp [eq_comm]) hd).trans (by simp only [true_and])
theorem fe_249 : (12, 615, 12, 91, 1598, 0) ∈ fldL := by decide +kernel
theorem g_249 {O : pO} {j n0 : Nat} {Q : pQ} {pc : Nat} {L : pL} {S : List pv} {n : Nat} {M : pM} {a : Nat} (hm : mO j = 12) (hd : decode (mB j) pc = .ok (.getfield 615, 3)) : J O j n0 Q pc L (vr (a + 1) :: S) n M = (ob n a = 12 ∧ J O j n0 Q (pc + 3) L (vi (M a 91) :: S) n M) := J_get fe_249 (by rw [hm]) hd
theorem p_249 {O : pO} {j n0 : Nat} {Q : pQ} {pc : Nat} {L : pL} {S : List pv} {n : Nat} {M : pM} {a : Nat} {x : Int} (hm : mO j = 12) (hd : decode (mB j) pc = .ok (.putfield 615, 3)) : J O j n0 Q pc L (vi x :: vr (a + 1) :: S) n M = (ob n a = 12 ∧ J O j n0 Q (pc + 3) L S n (st M a 91 x)) := (J_put (C := True) (x := x) fe_249 (by rw [hm]) (Or.inl rfl) (fun y => by show (vi x = vi y) ↔ _; simp [eq_comm]) hd).trans (by simp only [true_and])
theorem fe_250 : (12, 618, 12, 92, 1599, 0) ∈ fldL := by decide +kernel
theorem g_250 {O : pO} {j n0 : Nat} {Q : pQ} {pc : Nat} {L : pL} {S : List pv} {n : Nat} {M : pM} {a : Nat} (hm : mO j = 12) (hd : decode (mB j) pc = .ok (.getfield 618, 3)) : J O j n0 Q pc L (vr (a + 1) :: S) n M = (ob n a = 12 ∧ J O j n0 Q (pc + 3) L (vi (M a 92) :: S) n M) := J_get fe_250 (by rw [hm]) hd
theorem p_250 {O : pO} {j n0 : Nat} {Q : pQ} {pc : Nat} {L : pL} {S : List pv} {n : Nat} {M : pM} {a : Nat} {x : Int} (hm : mO j = 12) (hd : decode (mB j) pc = .ok (.putfield 618, 3)) : J O j n0 Q pc L (vi x :: vr (a + 1) :: S) n M = (ob n a = 12 ∧ J O j n0 Q (pc + 3) L S n (st M a 92 x)) := (J_put (C := True) (x := x) fe_250 (by rw [hm]) (Or.inl rfl) (fun y => by show (vi x = vi y) ↔ _; simp [eq_comm]) hd).trans (by simp only [true_and])
theorem fe_251 : (12, 621, 12, 93, 1600, 0) ∈ fldL := by decide +kernel
theorem g_251 {O : pO} {j n0 : Nat} {Q : pQ} {pc : Nat} {L : pL} {S : List pv} {n : Nat} {M : pM} {a : Nat} (hm : mO j = 12) (hd : decode (mB j) pc = .ok (.getfield 621, 3)) : J O j n0 Q pc L (vr (a + 1) :: S) n M = (ob n a = 12 ∧ J O j n0 Q (pc + 3) L (vi (M a 93) :: S) n M) := J_get fe_251 (by rw [hm]) hd
theorem p_251 {O : pO} {j n0 : Nat} {Q : pQ} {pc : Nat} {L : pL} {S : List pv} {n : Nat} {M : pM} {a : Nat} {x : Int} (hm : mO j = 12) (hd : decode (mB j) pc = .ok (.putfield 621, 3)) : J O j n0 Q pc L (vi x :: vr (a + 1) :: S) n M = (ob n a = 12 ∧ J O j n0 Q (pc + 3) L S n (st M a 93 x)) := (J_put (C := True) (x := x) fe_251 (by rw [hm]) (Or.inl rfl) (fun y => by show (vi x = vi y) ↔ _; simp [eq_comm]) hd).trans (by simp only [true_and])
theorem fe_252 : (12, 298, 12, 94, 1601, 0) ∈ fldL := by decide +kernel
theorem g_252 {O : pO} {j n0 : Nat} {Q : pQ} {pc : Nat} {L : pL} {S : List pv} {n : Nat} {M : pM} {a : Nat} (hm : mO j = 12) (hd : decode (mB j) pc = .ok (.getfield 298, 3)) : J O j n0 Q pc L (vr (a + 1) :: S) n M = (ob n a = 12 ∧ J O j n0 Q (pc + 3) L (vr (M a 94).toNat :: S) n M) := J_get fe_252 (by rw [hm]) hd
theorem p_252 {O : pO} {j n0 : Nat} {Q : pQ} {pc : Nat} {L : pL} {S : List pv} {n : Nat} {M : pM} {a b : Nat} (hm : mO j = 12) (hi : (mY j).name = "<init>") (hd : decode (mB j) pc = .ok (.putfield 298, 3)) : J O j n0 Q pc L (vr b :: vr (a + 1) :: S) n M = (ob n a = 12 ∧ J O j n0 Q (pc + 3) L S n (st M a 94 (b : Int))) := (J_put (C := True) (x := (b : Int)) fe_252 (by rw [hm]) (Or.inr ⟨hi, hm.symm, rfl⟩) (fun y => by show (∃ k : Nat, vr b = vr k ∧ y = (k : Int)) ↔ _; refine ⟨fun h => ?_, fun h => ⟨b, rfl, h.2⟩⟩; obtain ⟨k, h1, h2⟩ := h; cases h1; exact ⟨trivial, h2⟩) hd).trans (by simp only [true_and])
theorem fe_253 : (12, 301, 12, 95, 1602, 0) ∈ fldL := by decide +kernel
theorem g_253 {O : pO} {j n0 : Nat} {Q : pQ} {pc : Nat} {L : pL} {S : List pv} {n : Nat} {M : pM} {a : Nat} (hm : mO j = 12) (hd : decode (mB j) pc = .ok (.getfield 301, 3)) : J O j n0 Q pc L (vr (a + 1) :: S) n M = (ob n a = 12 ∧ J O j n0 Q (pc + 3) L (vr (M a 95).toNat :: S) n M) := J_get fe_253 (by rw [hm]) hd
theorem p_253 {O : pO} {j n0 : Nat} {Q : pQ} {pc : Nat} {L : pL} {S : List pv} {n : Nat} {M : pM} {a b : Nat} (hm : mO j = 12) (hi : (mY j).name = "<init>") (hd : decode (mB j) pc = .ok (.putfield 301, 3)) : J O j n0 Q pc L (vr b :: vr (a + 1) :: S) n M = (ob n a = 12 ∧ J O j n0 Q (pc + 3) L S n (st M a 95 (b : Int))) := (J_put (C := True) (x := (b : Int)) fe_253 (by rw [hm]) (Or.inr ⟨hi, hm.symm, rfl⟩) (fun y => by show (∃ k : Nat, vr b = vr k ∧ y = (k : Int)) ↔ _; refine ⟨fun h => ?_, fun h => ⟨b, rfl, h.2⟩⟩; obtain ⟨k, h1, h2⟩ := h; cases h1; exact ⟨trivial, h2⟩) hd).trans (by simp only [true_and])
theorem fe_254 : (12, 304, 12, 96, 1603, 0) ∈ fldL := by decide +kernel
theorem g_254 {O : pO} {j n0 : Nat} {Q : pQ} {pc : Nat} {L : pL} {S : List pv} {n : Nat} {M : pM} {a : Nat} (hm : mO j = 12) (hd : decode (mB j) pc = .ok (.getfield 304, 3)) : J O j n0 Q pc L (vr (a + 1) :: S) n M = (ob n a = 12 ∧ J O j n0 Q (pc + 3) L (vr (M a 96).toNat :: S) n M) := J_get fe_254 (by rw [hm]) hd
theorem p_254 {O : pO} {j n0 : Nat} {Q : pQ} {pc : Nat} {L : pL} {S : List pv} {n : Nat} {M : pM} {a b : Nat} (hm : mO j = 12) (hi : (mY j).name = "<init>") (hd : decode (mB j) pc = .ok (.putfield 304, 3)) : J O j n0 Q pc L (vr b :: vr (a + 1) :: S) n M = (ob n a = 12 ∧ J O j n0 Q (pc + 3) L S n (st M a 96 (b : Int))) := (J_put (C := True) (x := (b : Int)) fe_254 (by rw [hm]) (Or.inr ⟨hi, hm.symm, rfl⟩) (fun y => by show (∃ k : Nat, vr b = vr k ∧ y = (k : Int)) ↔ _; refine ⟨fun h => ?_, fun h => ⟨b, rfl, h.2⟩⟩; obtain ⟨k, h1, h2⟩ := h; cases h1; exact ⟨trivial, h2⟩) hd).trans (by simp only [true_and])
theorem fe_255 : (12, 307, 12, 97, 1604, 0) ∈ fldL := by decide +kernel
theorem g_255 {O : pO} {j n0 : Nat} {Q : pQ} {pc : Nat} {L : pL} {S : List pv} {n : Nat} {M : pM} {a : Nat} (hm : mO j = 12) (hd : decode (mB j) pc = .ok (.getfield 307, 3)) : J O j n0 Q pc L (vr (a + 1) :: S) n M = (ob n a = 12 ∧ J O j n0 Q (pc + 3) L (vr (M a 97).toNat :: S) n M) := J_get fe_255 (by rw [hm]) hd
theorem p_255 {O : pO} {j n0 : Nat} {Q : pQ} {pc : Nat} {L : pL} {S : List pv} {n : Nat} {M : pM} {a b : Nat} (hm : mO j = 12) (hi : (mY j).name = "<init>") (hd : decode (mB j) pc = .ok (.putfield 307, 3)) : J O j n0 Q pc L (vr b :: vr (a + 1) :: S) n M = (ob n a = 12 ∧ J O j n0 Q (pc + 3) L S n (st M a 97 (b : Int))) := (J_put (C := True) (x := (b : Int)) fe_255 (by rw [hm]) (Or.inr ⟨hi, hm.symm, rfl⟩) (fun y => by show (∃ k : Nat, vr b = vr k ∧ y = (k : Int)) ↔ _; refine ⟨fun h => ?_, fun h => ⟨b, rfl, h.2⟩⟩; obtain ⟨k, h1, h2⟩ := h; cases h1; exact ⟨trivial, h2⟩) hd).trans (by simp only [true_and])
theorem fe_256 : (12, 310, 12, 98, 1605, 0) ∈ fldL := by decide +kernel
theorem g_256 {O : pO} {j n0 : Nat} {Q : pQ} {pc : Nat} {L : pL} {S : List pv} {n : Nat} {M : pM} {a : Nat} (hm : mO j = 12) (hd : decode (mB j) pc = .ok (.getfield 310, 3)) : J O j n0 Q pc L (vr (a + 1) :: S) n M = (ob n a = 12 ∧ J O j n0 Q (pc + 3) L (vr (M a 98).toNat :: S) n M) := J_get fe_256 (by rw [hm]) hd
theorem p_256 {O : pO} {j n0 : Nat} {Q : pQ} {pc : Nat} {L : pL} {S : List pv} {n : Nat} {M : pM} {a b : Nat} (hm : mO j = 12) (hi : (mY j).name = "<init>") (hd : decode (mB j) pc = .ok (.putfield 310, 3)) : J O j n0 Q pc L (vr b :: vr (a + 1) :: S) n M = (ob n a = 12 ∧ J O j n0 Q (pc + 3) L S n (st M a 98 (b : Int))) := (J_put (C := True) (x := (b : Int)) fe_256 (by rw [hm]) (Or.inr ⟨hi, hm.symm, rfl⟩) (fun y => by show (∃ k : Nat, vr b = vr k ∧ y = (k : Int)) ↔ _; refine ⟨fun h => ?_, fun h => ⟨b, rfl, h.2⟩⟩; obtain ⟨k, h1, h2⟩ := h; cases h1; exact ⟨trivial, h2⟩) hd).trans (by simp only [true_and])
theorem fe_257 : (12, 334, 12, 99, 1606, 0) ∈ fldL := by decide +kernel
theorem g_257 {O : pO} {j n0 : Nat} {Q : pQ} {pc : Nat} {L : pL} {S : List pv} {n : Nat} {M : pM} {a : Nat} (hm : mO j = 12) (hd : decode (mB j) pc = .ok (.getfield 334, 3)) : J O j n0 Q pc L (vr (a + 1) :: S) n M = (ob n a = 12 ∧ J O j n0 Q (pc + 3) L (vi (M a 99) :: S) n M) := J_get fe_257 (by rw [hm]) hd
theorem p_257 {O : pO} {j n0 : Nat} {Q : pQ} {pc : Nat} {L : pL} {S : List pv} {n : Nat} {M : pM} {a : Nat} {x : Int} (hm : mO j = 12) (hd : decode (mB j) pc = .ok (.putfield 334, 3)) : J O j n0 Q pc L (vi x :: vr (a + 1) :: S) n M = (ob n a = 12 ∧ J O j n0 Q (pc + 3) L S n (st M a 99 x)) := (J_put (C := True) (x := x) fe_257 (by rw [hm]) (Or.inl rfl) (fun y => by show (vi x = vi y) ↔ _; simp [eq_comm]) hd).trans (by simp only [true_and])
theorem J_callE {O : pO} {j n0 : Nat} {Q : pQ} {pc : Nat} {L : pL} {S : List pv} {n : Nat} {M : pM} {ix b i : Nat} {As : List pv} {q : Nat × Nat × Nat × Nat × Nat × Nat} (hq : q ∈ calL) (e : (q.1, q.2.1) = (mO j, ix)) (e3 : q.2.2.1 = 2) (ei : q.2.2.2.1 = i) (hA : As.length = mA i) (hmr : mR i = none) (hno : ∀ q ∈ obiL, ¬ (q.1 = mO j ∧ q.2.1 = ix)) (hd : decode (mB j) pc = .ok (.invokespecial ix, 3)) : J O j n0 Q pc L (As.reverse ++ vr (b + 1) :: S) n M = (ob n b = mO i ∧ stk S ≤ 8 ∧ n + mC i ≤ n0 + mC j ∧ mo O i (vr (b + 1) :: As) n M (kV O j n0 Q (pc + 3) L S (n + mC i))) := by
  refine propext ⟨fun h => ?_, fun h => J_callI hq e e3 ei hA hmr hd h.1 h.2.1 h.2.2.1 h.2.2.2⟩
  subst ei
  rw [J_of hd (fun h => h)] at h
  obtain ⟨-, ⟨x, hx, h1, h2, -⟩ | ⟨x, hx, h1, h2, -, As', b', S', h4, h5, h6, h7, h8, -, h9⟩⟩ := h
  · exact absurd ⟨h1, h2⟩ (hno x hx)
  · have : x = q := uq_of cal_u x hx q hq (by rw [show (x.1, x.2.1) = (mO j, ix) from by rw [h1, h2], e])
    subst this
    have hl : As.reverse.length = As'.reverse.length := by rw [List.length_reverse, List.length_reverse, hA, h5]
    obtain ⟨g1, g2⟩ := List.append_inj h4 hl
    cases g2
    have g1 := List.reverse_inj.mp g1
    subst g1
    exact ⟨h6, h7, h8, h9⟩
theorem J_objE {O : pO} {j n0 : Nat} {Q : pQ} {pc : Nat} {L : pL} {S : List pv} {n : Nat} {M : pM} {ix b : Nat} {q : Nat × Nat × Nat} (hq : q ∈ obiL) (e : (q.1, q.2.1) = (mO j, ix)) (hnc : ∀ q ∈ calL, ¬ (q.1 = mO j ∧ q.2.1 = ix)) (hd : decode (mB j) pc = .ok (.invokespecial ix, 3)) : J O j n0 Q pc L (vr (b + 1) :: S) n M = (stk S ≤ 8 ∧ J O j n0 Q (pc + 3) L S n M) := by
  refine propext ⟨fun h => ?_, fun h => J_obj hq e hd h.1 h.2⟩
  rw [J_of hd (fun h => h)] at h
  obtain ⟨-, ⟨x, hx, h1, h2, b', S', h3, h4, h5⟩ | ⟨x, hx, h1, h2, -⟩⟩ := h
  · cases h3; exact ⟨h4, h5⟩
  · exact absurd ⟨h1, h2⟩ (hnc x hx)
theorem ce_0 : (13, 9, 2, 128, 213, 0) ∈ calL := by decide +kernel
theorem c_0 {O : pO} {j n0 : Nat} {Q : pQ} {pc : Nat} {L : pL} {S : List pv} {n : Nat} {M : pM} {b : Nat} (hm : mO j = 13) (hd : decode (mB j) pc = .ok (.invokespecial 9, 3)) : J O j n0 Q pc L (vr (b + 1) :: S) n M = (ob n b = 11 ∧ stk S ≤ 8 ∧ n + 60 ≤ n0 + mC j ∧ mo O 128 [vr (b + 1)] n M (kV O j n0 Q (pc + 3) L S (n + 60))) := J_callE (As := []) ce_0 (by rw [hm]) rfl rfl rfl rfl (by rw [hm]; decide +kernel) hd
theorem ce_1 : (11, 15, 2, 82, 221, 1) ∈ calL := by decide +kernel
theorem c_1 {O : pO} {j n0 : Nat} {Q : pQ} {pc : Nat} {L : pL} {S : List pv} {n : Nat} {M : pM} {b : Nat} {v1 : pv} (hm : mO j = 11) (hd : decode (mB j) pc = .ok (.invokespecial 15, 3)) : J O j n0 Q pc L (v1 :: vr (b + 1) :: S) n M = (ob n b = 7 ∧ stk S ≤ 8 ∧ n + 0 ≤ n0 + mC j ∧ mo O 82 [vr (b + 1), v1] n M (kV O j n0 Q (pc + 3) L S (n + 0))) := J_callE (As := [v1]) ce_1 (by rw [hm]) rfl rfl rfl rfl (by rw [hm]; decide +kernel) hd
theorem ce_2 : (11, 24, 2, 47, 262, 1) ∈ calL := by decide +kernel
theorem c_2 {O : pO} {j n0 : Nat} {Q : pQ} {pc : Nat} {L : pL} {S : List pv} {n : Nat} {M : pM} {b : Nat} (hm : mO j = 11) (hd : decode (mB j) pc = .ok (.invokespecial 24, 3)) : J O j n0 Q pc L (vr (b + 1) :: S) n M = (ob n b = 4 ∧ stk S ≤ 8 ∧ n + 8 ≤ n0 + mC j ∧ mo O 47 [vr (b + 1)] n M (kV O j n0 Q (pc + 3) L S (n + 8))) := J_callE (As := []) ce_2 (by rw [hm]) rfl rfl rfl rfl (by rw [hm]; decide +kernel) hd
theorem ce_3 : (4, 37, 1, 322, 266, 0) ∈ calL := by decide +kernel
theorem c_3 {O : pO} {j n0 : Nat} {Q : pQ} {pc : Nat} {L : pL} {S : List pv} {n : Nat} {M : pM} {v1 v2 : pv} (hm : mO j = 4) (hd : decode (mB j) pc = .ok (.invokestatic 37, 3)) : J O j n0 Q pc L (v2 :: v1 :: S) n M = (stk S ≤ 8 ∧ mo O 322 [v1, v2] n M (kV O j n0 Q (pc + 3) L S n)) := by
  have e : kR (mR 322) O j n0 Q (pc + 3) L S n = kV O j n0 Q (pc + 3) L S n := kR_V
  rw [← e]; exact J_callS (As := [v1, v2]) ce_3 (by rw [hm]) rfl rfl (by decide +kernel) rfl rfl hd
theorem ce_4 : (11, 34, 2, 63, 342, 1) ∈ calL := by decide +kernel
theorem c_4 {O : pO} {j n0 : Nat} {Q : pQ} {pc : Nat} {L : pL} {S : List pv} {n : Nat} {M : pM} {b : Nat} {v1 v2 : pv} (hm : mO j = 11) (hd : decode (mB j) pc = .ok (.invokespecial 34, 3)) : J O j n0 Q pc L (v2 :: v1 :: vr (b + 1) :: S) n M = (ob n b = 5 ∧ stk S ≤ 8 ∧ n + 0 ≤ n0 + mC j ∧ mo O 63 [vr (b + 1), v1, v2] n M (kV O j n0 Q (pc + 3) L S (n + 0))) := J_callE (As := [v1, v2]) ce_4 (by rw [hm]) rfl rfl rfl rfl (by rw [hm]; decide +kernel) hd
theorem ce_5 : (11, 43, 2, 35, 355, 1) ∈ calL := by decide +kernel
theorem c_5 {O : pO} {j n0 : Nat} {Q : pQ} {pc : Nat} {L : pL} {S : List pv} {n : Nat} {M : pM} {b : Nat} {v1 : pv} (hm : mO j = 11) (hd : decode (mB j) pc = .ok (.invokespecial 43, 3)) : J O j n0 Q pc L (v1 :: vr (b + 1) :: S) n M = (ob n b = 3 ∧ stk S ≤ 8 ∧ n + 3 ≤ n0 + mC j ∧ mo O 35 [vr (b + 1), v1] n M (kV O j n0 Q (pc + 3) L S (n + 3))) := J_callE (As := [v1]) ce_5 (by rw [hm]) rfl rfl rfl rfl (by rw [hm]; decide +kernel) hd
theorem ce_6 : (11, 56, 2, 0, 384, 1) ∈ calL := by decide +kernel
theorem c_6 {O : pO} {j n0 : Nat} {Q : pQ} {pc : Nat} {L : pL} {S : List pv} {n : Nat} {M : pM} {b : Nat} (hm : mO j = 11) (hd : decode (mB j) pc = .ok (.invokespecial 56, 3)) : J O j n0 Q pc L (vr (b + 1) :: S) n M = (ob n b = 0 ∧ stk S ≤ 8 ∧ n + 1 ≤ n0 + mC j ∧ mo O 0 [vr (b + 1)] n M (kV O j n0 Q (pc + 3) L S (n + 1))) := J_callE (As := []) ce_6 (by rw [hm]) rfl rfl rfl rfl (by rw [hm]; decide +kernel) hd
theorem ce_7 : (11, 63, 2, 7, 404, 1) ∈ calL := by decide +kernel
theorem c_7 {O : pO} {j n0 : Nat} {Q : pQ} {pc : Nat} {L : pL} {S : List pv} {n : Nat} {M : pM} {b : Nat} {v1 v2 : pv} (hm : mO j = 11) (hd : decode (mB j) pc = .ok (.invokespecial 63, 3)) : J O j n0 Q pc L (v2 :: v1 :: vr (b + 1) :: S) n M = (ob n b = 1 ∧ stk S ≤ 8 ∧ n + 6 ≤ n0 + mC j ∧ mo O 7 [vr (b + 1), v1, v2] n M (kV O j n0 Q (pc + 3) L S (n + 6))) := J_callE (As := [v1, v2]) ce_7 (by rw [hm]) rfl rfl rfl rfl (by rw [hm]; decide +kernel) hd
theorem ce_8 : (1, 27, 2, 0, 409, 1) ∈ calL := by decide +kernel
theorem c_8 {O : pO} {j n0 : Nat} {Q : pQ} {pc : Nat} {L : pL} {S : List pv} {n : Nat} {M : pM} {b : Nat} (hm : mO j = 1) (hd : decode (mB j) pc = .ok (.invokespecial 27, 3)) : J O j n0 Q pc L (vr (b + 1) :: S) n M = (ob n b = 0 ∧ stk S ≤ 8 ∧ n + 1 ≤ n0 + mC j ∧ mo O 0 [vr (b + 1)] n M (kV O j n0 Q (pc + 3) L S (n + 1))) := J_callE (As := []) ce_8 (by rw [hm]) rfl rfl rfl rfl (by rw [hm]; decide +kernel) hd
theorem ce_9 : (1, 39, 1, 171, 410, 1) ∈ calL := by decide +kernel
theorem c_9 {O : pO} {j n0 : Nat} {Q : pQ} {pc : Nat} {L : pL} {S : List pv} {n : Nat} {M : pM} {v1 v2 : pv} (hm : mO j = 1) (hd : decode (mB j) pc = .ok (.invokestatic 39, 3)) : J O j n0 Q pc L (v2 :: v1 :: S) n M = (stk S ≤ 8 ∧ mo O 171 [v1, v2] n M (kI O j n0 Q (pc + 3) L S n)) := by
  have e : kR (mR 171) O j n0 Q (pc + 3) L S n = kI O j n0 Q (pc + 3) L S n := kR_I (Or.inl rfl)
  rw [← e]; exact J_callS (As := [v1, v2]) ce_9 (by rw [hm]) rfl rfl (by decide +kernel) rfl rfl hd
theorem ce_10 : (11, 72, 2, 29, 474, 1) ∈ calL := by decide +kernel
theorem c_10 {O : pO} {j n0 : Nat} {Q : pQ} {pc : Nat} {L : pL} {S : List pv} {n : Nat} {M : pM} {b : Nat} (hm : mO j = 11) (hd : decode (mB j) pc = .ok (.invokespecial 72, 3)) : J O j n0 Q pc L (vr (b + 1) :: S) n M = (ob n b = 2 ∧ stk S ≤ 8 ∧ n + 4 ≤ n0 + mC j ∧ mo O 29 [vr (b + 1)] n M (kV O j n0 Q (pc + 3) L S (n + 4))) := J_callE (As := []) ce_10 (by rw [hm]) rfl rfl rfl rfl (by rw [hm]; decide +kernel) hd
theorem ce_11 : (11, 79, 2, 113, 509, 1) ∈ calL := by decide +kernel
theorem c_11 {O : pO} {j n0 : Nat} {Q : pQ} {pc : Nat} {L : pL} {S : List pv} {n : Nat} {M : pM} {b : Nat} (hm : mO j = 11) (hd : decode (mB j) pc = .ok (.invokespecial 79, 3)) : J O j n0 Q pc L (vr (b + 1) :: S) n M = (ob n b = 9 ∧ stk S ≤ 8 ∧ n + 7 ≤ n0 + mC j ∧ mo O 113 [vr (b + 1)] n M (kV O j n0 Q (pc + 3) L S (n + 7))) := J_callE (As := []) ce_11 (by rw [hm]) rfl rfl rfl rfl (by rw [hm]; decide +kernel) hd
theorem ce_12 : (11, 86, 2, 98, 556, 1) ∈ calL := by decide +kernel
theorem c_12 {O : pO} {j n0 : Nat} {Q : pQ} {pc : Nat} {L : pL} {S : List pv} {n : Nat} {M : pM} {b : Nat} (hm : mO j = 11) (hd : decode (mB j) pc = .ok (.invokespecial 86, 3)) : J O j n0 Q pc L (vr (b + 1) :: S) n M = (ob n b = 8 ∧ stk S ≤ 8 ∧ n + 4 ≤ n0 + mC j ∧ mo O 98 [vr (b + 1)] n M (kV O j n0 Q (pc + 3) L S (n + 4))) := J_callE (As := []) ce_12 (by rw [hm]) rfl rfl rfl rfl (by rw [hm]; decide +kernel) hd
theorem ce_13 : (11, 93, 2, 78, 587, 1) ∈ calL := by decide +kernel
theorem c_13 {O : pO} {j n0 : Nat} {Q : pQ} {pc : Nat} {L : pL} {S : List pv} {n : Nat} {M : pM} {b : Nat} (hm : mO j = 11) (hd : decode (mB j) pc = .ok (.invokespecial 93, 3)) : J O j n0 Q pc L (vr (b + 1) :: S) n M = (ob n b = 6 ∧ stk S ≤ 8 ∧ n + 1 ≤ n0 + mC j ∧ mo O 78 [vr (b + 1)] n M (kV O j n0 Q (pc + 3) L S (n + 1))) := J_callE (As := []) ce_13 (by rw [hm]) rfl rfl rfl rfl (by rw [hm]; decide +kernel) hd
theorem ce_14 : (11, 100, 2, 121, 597, 1) ∈ calL := by decide +kernel
theorem c_14 {O : pO} {j n0 : Nat} {Q : pQ} {pc : Nat} {L : pL} {S : List pv} {n : Nat} {M : pM} {b : Nat} (hm : mO j = 11) (hd : decode (mB j) pc = .ok (.invokespecial 100, 3)) : J O j n0 Q pc L (vr (b + 1) :: S) n M = (ob n b = 10 ∧ stk S ≤ 8 ∧ n + 5 ≤ n0 + mC j ∧ mo O 121 [vr (b + 1)] n M (kV O j n0 Q (pc + 3) L S (n + 5))) := J_callE (As := []) ce_14 (by rw [hm]) rfl rfl rfl rfl (by rw [hm]; decide +kernel) hd
theorem ce_15 : (13, 13, 0, 129, 675, 0) ∈ calL := by decide +kernel
theorem c_15 {O : pO} {j n0 : Nat} {Q : pQ} {pc : Nat} {L : pL} {S : List pv} {n : Nat} {M : pM} {b : Nat} {v1 v2 v3 v4 v5 : pv} (hm : mO j = 13) (hd : decode (mB j) pc = .ok (.invokevirtual 13, 3)) : J O j n0 Q pc L (v5 :: v4 :: v3 :: v2 :: v1 :: vr (b + 1) :: S) n M = (ob n b = 11 ∧ stk S ≤ 8 ∧ mo O 129 [vr (b + 1), v1, v2, v3, v4, v5] n M (kI O j n0 Q (pc + 3) L S n)) := by
  have e : kR (mR 129) O j n0 Q (pc + 3) L S n = kI O j n0 Q (pc + 3) L S n := kR_I (Or.inl rfl)
  rw [← e]; exact J_callV (As := [v1, v2, v3, v4, v5]) ce_15 (by rw [hm]) rfl rfl (by decide +kernel) rfl rfl hd
theorem ce_16 : (11, 108, 0, 161, 679, 0) ∈ calL := by decide +kernel
theorem c_16 {O : pO} {j n0 : Nat} {Q : pQ} {pc : Nat} {L : pL} {S : List pv} {n : Nat} {M : pM} {b : Nat} {v1 : pv} (hm : mO j = 11) (hd : decode (mB j) pc = .ok (.invokevirtual 108, 3)) : J O j n0 Q pc L (v1 :: vr (b + 1) :: S) n M = (ob n b = 11 ∧ stk S ≤ 8 ∧ mo O 161 [vr (b + 1), v1] n M (kV O j n0 Q (pc + 3) L S n)) := by
  have e : kR (mR 161) O j n0 Q (pc + 3) L S n = kV O j n0 Q (pc + 3) L S n := kR_V
  rw [← e]; exact J_callV (As := [v1]) ce_16 (by rw [hm]) rfl rfl (by decide +kernel) rfl rfl hd
theorem ce_17 : (13, 18, 0, 130, 683, 0) ∈ calL := by decide +kernel
theorem c_17 {O : pO} {j n0 : Nat} {Q : pQ} {pc : Nat} {L : pL} {S : List pv} {n : Nat} {M : pM} {b : Nat} {v1 : pv} (hm : mO j = 13) (hd : decode (mB j) pc = .ok (.invokevirtual 18, 3)) : J O j n0 Q pc L (v1 :: vr (b + 1) :: S) n M = (ob n b = 11 ∧ stk S ≤ 8 ∧ mo O 130 [vr (b + 1), v1] n M (kI O j n0 Q (pc + 3) L S n)) := by
  have e : kR (mR 130) O j n0 Q (pc + 3) L S n = kI O j n0 Q (pc + 3) L S n := kR_I (Or.inl rfl)
  rw [← e]; exact J_callV (As := [v1]) ce_17 (by rw [hm]) rfl rfl (by decide +kernel) rfl rfl hd
theorem ce_18 : (13, 23, 0, 131, 687, 0) ∈ calL := by decide +kernel
theorem c_18 {O : pO} {j n0 : Nat} {Q : pQ} {pc : Nat} {L : pL} {S : List pv} {n : Nat} {M : pM} {b : Nat} (hm : mO j = 13) (hd : decode (mB j) pc = .ok (.invokevirtual 23, 3)) : J O j n0 Q pc L (vr (b + 1) :: S) n M = (ob n b = 11 ∧ stk S ≤ 8 ∧ mo O 131 [vr (b + 1)] n M (kI O j n0 Q (pc + 3) L S n)) := by
  have e : kR (mR 131) O j n0 Q (pc + 3) L S n = kI O j n0 Q (pc + 3) L S n := kR_I (Or.inl rfl)
  rw [← e]; exact J_callV (As := []) ce_18 (by rw [hm]) rfl rfl (by decide +kernel) rfl rfl hd
theorem ce_19 : (11, 112, 0, 64, 691, 1) ∈ calL := by decide +kernel
theorem c_19 {O : pO} {j n0 : Nat} {Q : pQ} {pc : Nat} {L : pL} {S : List pv} {n : Nat} {M : pM} {b : Nat} {v1 v2 : pv} (hm : mO j = 11) (hd : decode (mB j) pc = .ok (.invokevirtual 112, 3)) : J O j n0 Q pc L (v2 :: v1 :: vr (b + 1) :: S) n M = (ob n b = 5 ∧ stk S ≤ 8 ∧ mo O 64 [vr (b + 1), v1, v2] n M (kI O j n0 Q (pc + 3) L S n)) := by
  have e : kR (mR 64) O j n0 Q (pc + 3) L S n = kI O j n0 Q (pc + 3) L S n := kR_I (Or.inr (Or.inl rfl))
  rw [← e]; exact J_callV (As := [v1, v2]) ce_19 (by rw [hm]) rfl rfl (by decide +kernel) rfl rfl hd
theorem ce_20 : (5, 19, 0, 48, 695, 1) ∈ calL := by decide +kernel
theorem c_20 {O : pO} {j n0 : Nat} {Q : pQ} {pc : Nat} {L : pL} {S : List pv} {n : Nat} {M : pM} {b : Nat} (hm : mO j = 5) (hd : decode (mB j) pc = .ok (.invokevirtual 19, 3)) : J O j n0 Q pc L (vr (b + 1) :: S) n M = (ob n b = 4 ∧ stk S ≤ 8 ∧ mo O 48 [vr (b + 1)] n M (kV O j n0 Q (pc + 3) L S n)) := by
  have e : kR (mR 48) O j n0 Q (pc + 3) L S n = kV O j n0 Q (pc + 3) L S n := kR_V
  rw [← e]; exact J_callV (As := []) ce_20 (by rw [hm]) rfl rfl (by decide +kernel) rfl rfl hd
theorem ce_21 : (5, 24, 0, 83, 699, 1) ∈ calL := by decide +kernel
theorem c_21 {O : pO} {j n0 : Nat} {Q : pQ} {pc : Nat} {L : pL} {S : List pv} {n : Nat} {M : pM} {b : Nat} {v1 : pv} (hm : mO j = 5) (hd : decode (mB j) pc = .ok (.invokevirtual 24, 3)) : J O j n0 Q pc L (v1 :: vr (b + 1) :: S) n M = (ob n b = 7 ∧ stk S ≤ 8 ∧ mo O 83 [vr (b + 1), v1] n M (kV O j n0 Q (pc + 3) L S n)) := by
  have e : kR (mR 83) O j n0 Q (pc + 3) L S n = kV O j n0 Q (pc + 3) L S n := kR_V
  rw [← e]; exact J_callV (As := [v1]) ce_21 (by rw [hm]) rfl rfl (by decide +kernel) rfl rfl hd
theorem ce_22 : (7, 15, 1, 299, 703, 0) ∈ calL := by decide +kernel
theorem c_22 {O : pO} {j n0 : Nat} {Q : pQ} {pc : Nat} {L : pL} {S : List pv} {n : Nat} {M : pM} {a b : Int} (hm : mO j = 7) (hd : decode (mB j) pc = .ok (.invokestatic 15, 3)) : J O j n0 Q pc L (vi b :: vi a :: S) n M = (stk S ≤ 8 ∧ J O j n0 Q (pc + 3) L (vi (if b < a then b else a) :: S) n M) := J_min ce_22 (by rw [hm]) rfl (by decide +kernel) hd
theorem ce_23 : (7, 37, 0, 84, 706, 0) ∈ calL := by decide +kernel
theorem c_23 {O : pO} {j n0 : Nat} {Q : pQ} {pc : Nat} {L : pL} {S : List pv} {n : Nat} {M : pM} {b : Nat} (hm : mO j = 7) (hd : decode (mB j) pc = .ok (.invokevirtual 37, 3)) : J O j n0 Q pc L (vr (b + 1) :: S) n M = (ob n b = 7 ∧ stk S ≤ 8 ∧ mo O 84 [vr (b + 1)] n M (kV O j n0 Q (pc + 3) L S n)) := by
  have e : kR (mR 84) O j n0 Q (pc + 3) L S n = kV O j n0 Q (pc + 3) L S n := kR_V
  rw [← e]; exact J_callV (As := []) ce_23 (by rw [hm]) rfl rfl (by decide +kernel) rfl rfl hd
theorem ce_24 : (7, 46, 0, 85, 710, 0) ∈ calL := by decide +kernel
theorem c_24 {O : pO} {j n0 : Nat} {Q : pQ} {pc : Nat} {L : pL} {S : List pv} {n : Nat} {M : pM} {b : Nat} {v1 v2 : pv} (hm : mO j = 7) (hd : decode (mB j) pc = .ok (.invokevirtual 46, 3)) : J O j n0 Q pc L (v2 :: v1 :: vr (b + 1) :: S) n M = (ob n b = 7 ∧ stk S ≤ 8 ∧ mo O 85 [vr (b + 1), v1, v2] n M (kI O j n0 Q (pc + 3) L S n)) := by
  have e : kR (mR 85) O j n0 Q (pc + 3) L S n = kI O j n0 Q (pc + 3) L S n := kR_I (Or.inl rfl)
  rw [← e]; exact J_callV (As := [v1, v2]) ce_24 (by rw [hm]) rfl rfl (by decide +kernel) rfl rfl hd
theorem ce_25 : (7, 53, 0, 87, 714, 0) ∈ calL := by decide +kernel
theorem c_25 {O : pO} {j n0 : Nat} {Q : pQ} {pc : Nat} {L : pL} {S : List pv} {n : Nat} {M : pM} {b : Nat} (hm : mO j = 7) (hd : decode (mB j) pc = .ok (.invokevirtual 53, 3)) : J O j n0 Q pc L (vr (b + 1) :: S) n M = (ob n b = 7 ∧ stk S ≤ 8 ∧ mo O 87 [vr (b + 1)] n M (kI O j n0 Q (pc + 3) L S n)) := by
  have e : kR (mR 87) O j n0 Q (pc + 3) L S n = kI O j n0 Q (pc + 3) L S n := kR_I (Or.inl rfl)
  rw [← e]; exact J_callV (As := []) ce_25 (by rw [hm]) rfl rfl (by decide +kernel) rfl rfl hd
theorem ce_26 : (7, 70, 0, 300, 719, 0) ∈ calL := by decide +kernel
theorem ce_27 : (14, 335, 0, 304, 723, 0) ∈ calL := by decide +kernel
theorem ce_28 : (7, 72, 0, 301, 729, 0) ∈ calL := by decide +kernel
theorem ce_29 : (14, 492, 0, 305, 733, 0) ∈ calL := by decide +kernel
theorem ce_30 : (14, 495, 1, 308, 737, 0) ∈ calL := by decide +kernel
theorem c_30 {O : pO} {j n0 : Nat} {Q : pQ} {pc : Nat} {L : pL} {S : List pv} {n : Nat} {M : pM} {v1 v2 : pv} (hm : mO j = 14) (hd : decode (mB j) pc = .ok (.invokestatic 495, 3)) : J O j n0 Q pc L (v2 :: v1 :: S) n M = (stk S ≤ 8 ∧ mo O 308 [v1, v2] n M (kI O j n0 Q (pc + 3) L S n)) := by
  have e : kR (mR 308) O j n0 Q (pc + 3) L S n = kI O j n0 Q (pc + 3) L S n := kR_I (Or.inr (Or.inr rfl))
  rw [← e]; exact J_callS (As := [v1, v2]) ce_30 (by rw [hm]) rfl rfl (by decide +kernel) rfl rfl hd
theorem ce_31 : (15, 9, 1, 306, 740, 0) ∈ calL := by decide +kernel
theorem c_31 {O : pO} {j n0 : Nat} {Q : pQ} {pc : Nat} {L : pL} {S : List pv} {n : Nat} {M : pM} {v1 v2 : pv} (hm : mO j = 15) (hd : decode (mB j) pc = .ok (.invokestatic 9, 3)) : J O j n0 Q pc L (v2 :: v1 :: S) n M = (stk S ≤ 8 ∧ mo O 306 [v1, v2] n M (kV O j n0 Q (pc + 3) L S n)) := by
  have e : kR (mR 306) O j n0 Q (pc + 3) L S n = kV O j n0 Q (pc + 3) L S n := kR_V
  rw [← e]; exact J_callS (As := [v1, v2]) ce_31 (by rw [hm]) rfl rfl (by decide +kernel) rfl rfl hd
theorem ce_32 : (14, 1059, 1, 323, 745, 0) ∈ calL := by decide +kernel
theorem c_32 {O : pO} {j n0 : Nat} {Q : pQ} {pc : Nat} {L : pL} {S : List pv} {n : Nat} {M : pM} {v1 v2 v3 : pv} (hm : mO j = 14) (hd : decode (mB j) pc = .ok (.invokestatic 1059, 3)) : J O j n0 Q pc L (v3 :: v2 :: v1 :: S) n M = (stk S ≤ 8 ∧ mo O 323 [v1, v2, v3] n M (kI O j n0 Q (pc + 3) L S n)) := by
  have e : kR (mR 323) O j n0 Q (pc + 3) L S n = kI O j n0 Q (pc + 3) L S n := kR_I (Or.inl rfl)
  rw [← e]; exact J_callS (As := [v1, v2, v3]) ce_32 (by rw [hm]) rfl rfl (by decide +kernel) rfl rfl hd
theorem ce_33 : (14, 498, 1, 318, 748, 0) ∈ calL := by decide +kernel
theorem c_33 {O : pO} {j n0 : Nat} {Q : pQ} {pc : Nat} {L : pL} {S : List pv} {n : Nat} {M : pM} {v1 v2 : pv} (hm : mO j = 14) (hd : decode (mB j) pc = .ok (.invokestatic 498, 3)) : J O j n0 Q pc L (v2 :: v1 :: S) n M = (stk S ≤ 8 ∧ mo O 318 [v1, v2] n M (kI O j n0 Q (pc + 3) L S n)) := by
  have e : kR (mR 318) O j n0 Q (pc + 3) L S n = kI O j n0 Q (pc + 3) L S n := kR_I (Or.inr (Or.inr rfl))
  rw [← e]; exact J_callS (As := [v1, v2]) ce_33 (by rw [hm]) rfl rfl (by decide +kernel) rfl rfl hd
theorem ce_34 : (16, 67, 1, 319, 751, 0) ∈ calL := by decide +kernel
theorem c_34 {O : pO} {j n0 : Nat} {Q : pQ} {pc : Nat} {L : pL} {S : List pv} {n : Nat} {M : pM} {v1 v2 : pv} (hm : mO j = 16) (hd : decode (mB j) pc = .ok (.invokestatic 67, 3)) : J O j n0 Q pc L (v2 :: v1 :: S) n M = (stk S ≤ 8 ∧ mo O 319 [v1, v2] n M (kV O j n0 Q (pc + 3) L S n)) := by
  have e : kR (mR 319) O j n0 Q (pc + 3) L S n = kV O j n0 Q (pc + 3) L S n := kR_V
  rw [← e]; exact J_callS (As := [v1, v2]) ce_34 (by rw [hm]) rfl rfl (by decide +kernel) rfl rfl hd
theorem ce_35 : (16, 48, 1, 313, 754, 0) ∈ calL := by decide +kernel
theorem c_35 {O : pO} {j n0 : Nat} {Q : pQ} {pc : Nat} {L : pL} {S : List pv} {n : Nat} {M : pM} {v1 : pv} (hm : mO j = 16) (hd : decode (mB j) pc = .ok (.invokestatic 48, 3)) : J O j n0 Q pc L (v1 :: S) n M = (stk S ≤ 8 ∧ mo O 313 [v1] n M (kI O j n0 Q (pc + 3) L S n)) := by
  have e : kR (mR 313) O j n0 Q (pc + 3) L S n = kI O j n0 Q (pc + 3) L S n := kR_I (Or.inl rfl)
  rw [← e]; exact J_callS (As := [v1]) ce_35 (by rw [hm]) rfl rfl (by decide +kernel) rfl rfl hd
theorem ce_36 : (16, 414, 1, 306, 757, 0) ∈ calL := by decide +kernel
theorem c_36 {O : pO} {j n0 : Nat} {Q : pQ} {pc : Nat} {L : pL} {S : List pv} {n : Nat} {M : pM} {v1 v2 : pv} (hm : mO j = 16) (hd : decode (mB j) pc = .ok (.invokestatic 414, 3)) : J O j n0 Q pc L (v2 :: v1 :: S) n M = (stk S ≤ 8 ∧ mo O 306 [v1, v2] n M (kV O j n0 Q (pc + 3) L S n)) := by
  have e : kR (mR 306) O j n0 Q (pc + 3) L S n = kV O j n0 Q (pc + 3) L S n := kR_V
  rw [← e]; exact J_callS (As := [v1, v2]) ce_36 (by rw [hm]) rfl rfl (by decide +kernel) rfl rfl hd
theorem ce_37 : (16, 71, 1, 312, 758, 0) ∈ calL := by decide +kernel
theorem c_37 {O : pO} {j n0 : Nat} {Q : pQ} {pc : Nat} {L : pL} {S : List pv} {n : Nat} {M : pM} {v1 v2 : pv} (hm : mO j = 16) (hd : decode (mB j) pc = .ok (.invokestatic 71, 3)) : J O j n0 Q pc L (v2 :: v1 :: S) n M = (stk S ≤ 8 ∧ mo O 312 [v1, v2] n M (kI O j n0 Q (pc + 3) L S n)) := by
  have e : kR (mR 312) O j n0 Q (pc + 3) L S n = kI O j n0 Q (pc + 3) L S n := kR_I (Or.inr (Or.inr rfl))
  rw [← e]; exact J_callS (As := [v1, v2]) ce_37 (by rw [hm]) rfl rfl (by decide +kernel) rfl rfl hd
theorem ce_38 : (7, 57, 0, 86, 767, 0) ∈ calL := by decide +kernel
theorem c_38 {O : pO} {j n0 : Nat} {Q : pQ} {pc : Nat} {L : pL} {S : List pv} {n : Nat} {M : pM} {b : Nat} (hm : mO j = 7) (hd : decode (mB j) pc = .ok (.invokevirtual 57, 3)) : J O j n0 Q pc L (vr (b + 1) :: S) n M = (ob n b = 7 ∧ stk S ≤ 8 ∧ mo O 86 [vr (b + 1)] n M (kI O j n0 Q (pc + 3) L S n)) := by
  have e : kR (mR 86) O j n0 Q (pc + 3) L S n = kI O j n0 Q (pc + 3) L S n := kR_I (Or.inl rfl)
  rw [← e]; exact J_callV (As := []) ce_38 (by rw [hm]) rfl rfl (by decide +kernel) rfl rfl hd
theorem ce_39 : (7, 62, 0, 302, 772, 0) ∈ calL := by decide +kernel
theorem ce_40 : (14, 633, 0, 303, 776, 0) ∈ calL := by decide +kernel
theorem ce_41 : (14, 505, 0, 300, 780, 0) ∈ calL := by decide +kernel
theorem ce_42 : (14, 637, 1, 310, 781, 0) ∈ calL := by decide +kernel
theorem c_42 {O : pO} {j n0 : Nat} {Q : pQ} {pc : Nat} {L : pL} {S : List pv} {n : Nat} {M : pM} {v1 v2 v3 v4 : pv} (hm : mO j = 14) (hd : decode (mB j) pc = .ok (.invokestatic 637, 3)) : J O j n0 Q pc L (v4 :: v3 :: v2 :: v1 :: S) n M = (stk S ≤ 8 ∧ mo O 310 [v1, v2, v3, v4] n M (kI O j n0 Q (pc + 3) L S n)) := by
  have e : kR (mR 310) O j n0 Q (pc + 3) L S n = kI O j n0 Q (pc + 3) L S n := kR_I (Or.inl rfl)
  rw [← e]; exact J_callS (As := [v1, v2, v3, v4]) ce_42 (by rw [hm]) rfl rfl (by decide +kernel) rfl rfl hd
theorem ce_43 : (15, 88, 1, 309, 784, 0) ∈ calL := by decide +kernel
theorem c_43 {O : pO} {j n0 : Nat} {Q : pQ} {pc : Nat} {L : pL} {S : List pv} {n : Nat} {M : pM} {v1 : pv} (hm : mO j = 15) (hd : decode (mB j) pc = .ok (.invokestatic 88, 3)) : J O j n0 Q pc L (v1 :: S) n M = (stk S ≤ 8 ∧ mo O 309 [v1] n M (kI O j n0 Q (pc + 3) L S n)) := by
  have e : kR (mR 309) O j n0 Q (pc + 3) L S n = kI O j n0 Q (pc + 3) L S n := kR_I (Or.inr (Or.inl rfl))
  rw [← e]; exact J_callS (As := [v1]) ce_43 (by rw [hm]) rfl rfl (by decide +kernel) rfl rfl hd
theorem ce_44 : (15, 92, 1, 298, 787, 0) ∈ calL := by decide +kernel
theorem c_44 {O : pO} {j n0 : Nat} {Q : pQ} {pc : Nat} {L : pL} {S : List pv} {n : Nat} {M : pM} {a b : Int} (hm : mO j = 15) (hd : decode (mB j) pc = .ok (.invokestatic 92, 3)) : J O j n0 Q pc L (vi b :: vi a :: S) n M = (stk S ≤ 8 ∧ J O j n0 Q (pc + 3) L (vi (if a < b then b else a) :: S) n M) := J_max ce_44 (by rw [hm]) rfl (by decide +kernel) hd
theorem ce_45 : (15, 38, 1, 299, 790, 0) ∈ calL := by decide +kernel
theorem c_45 {O : pO} {j n0 : Nat} {Q : pQ} {pc : Nat} {L : pL} {S : List pv} {n : Nat} {M : pM} {a b : Int} (hm : mO j = 15) (hd : decode (mB j) pc = .ok (.invokestatic 38, 3)) : J O j n0 Q pc L (vi b :: vi a :: S) n M = (stk S ≤ 8 ∧ J O j n0 Q (pc + 3) L (vi (if b < a then b else a) :: S) n M) := J_min ce_45 (by rw [hm]) rfl (by decide +kernel) hd
theorem ce_46 : (15, 95, 1, 311, 791, 0) ∈ calL := by decide +kernel
theorem c_46 {O : pO} {j n0 : Nat} {Q : pQ} {pc : Nat} {L : pL} {S : List pv} {n : Nat} {M : pM} {v1 v2 v3 v4 : pv} (hm : mO j = 15) (hd : decode (mB j) pc = .ok (.invokestatic 95, 3)) : J O j n0 Q pc L (v4 :: v3 :: v2 :: v1 :: S) n M = (stk S ≤ 8 ∧ mo O 311 [v1, v2, v3, v4] n M (kI O j n0 Q (pc + 3) L S n)) := by
  have e : kR (mR 311) O j n0 Q (pc + 3) L S n = kI O j n0 Q (pc + 3) L S n := kR_I (Or.inl rfl)
  rw [← e]; exact J_callS (As := [v1, v2, v3, v4]) ce_46 (by rw [hm]) rfl rfl (by decide +kernel) rfl rfl hd
theorem ce_47 : (14, 640, 1, 314, 794, 0) ∈ calL := by decide +kernel
theorem c_47 {O : pO} {j n0 : Nat} {Q : pQ} {pc : Nat} {L : pL} {S : List pv} {n : Nat} {M : pM} {v1 v2 v3 v4 : pv} (hm : mO j = 14) (hd : decode (mB j) pc = .ok (.invokestatic 640, 3)) : J O j n0 Q pc L (v4 :: v3 :: v2 :: v1 :: S) n M = (stk S ≤ 8 ∧ mo O 314 [v1, v2, v3, v4] n M (kI O j n0 Q (pc + 3) L S n)) := by
  have e : kR (mR 314) O j n0 Q (pc + 3) L S n = kI O j n0 Q (pc + 3) L S n := kR_I (Or.inl rfl)
  rw [← e]; exact J_callS (As := [v1, v2, v3, v4]) ce_47 (by rw [hm]) rfl rfl (by decide +kernel) rfl rfl hd
theorem ce_48 : (16, 224, 1, 298, 797, 0) ∈ calL := by decide +kernel
theorem c_48 {O : pO} {j n0 : Nat} {Q : pQ} {pc : Nat} {L : pL} {S : List pv} {n : Nat} {M : pM} {a b : Int} (hm : mO j = 16) (hd : decode (mB j) pc = .ok (.invokestatic 224, 3)) : J O j n0 Q pc L (vi b :: vi a :: S) n M = (stk S ≤ 8 ∧ J O j n0 Q (pc + 3) L (vi (if a < b then b else a) :: S) n M) := J_max ce_48 (by rw [hm]) rfl (by decide +kernel) hd
theorem ce_49 : (16, 183, 1, 299, 798, 0) ∈ calL := by decide +kernel
theorem c_49 {O : pO} {j n0 : Nat} {Q : pQ} {pc : Nat} {L : pL} {S : List pv} {n : Nat} {M : pM} {a b : Int} (hm : mO j = 16) (hd : decode (mB j) pc = .ok (.invokestatic 183, 3)) : J O j n0 Q pc L (vi b :: vi a :: S) n M = (stk S ≤ 8 ∧ J O j n0 Q (pc + 3) L (vi (if b < a then b else a) :: S) n M) := J_min ce_49 (by rw [hm]) rfl (by decide +kernel) hd
theorem ce_50 : (16, 228, 1, 315, 800, 0) ∈ calL := by decide +kernel
theorem c_50 {O : pO} {j n0 : Nat} {Q : pQ} {pc : Nat} {L : pL} {S : List pv} {n : Nat} {M : pM} {v1 v2 v3 v4 : pv} (hm : mO j = 16) (hd : decode (mB j) pc = .ok (.invokestatic 228, 3)) : J O j n0 Q pc L (v4 :: v3 :: v2 :: v1 :: S) n M = (stk S ≤ 8 ∧ mo O 315 [v1, v2, v3, v4] n M (kI O j n0 Q (pc + 3) L S n)) := by
  have e : kR (mR 315) O j n0 Q (pc + 3) L S n = kI O j n0 Q (pc + 3) L S n := kR_I (Or.inl rfl)
  rw [← e]; exact J_callS (As := [v1, v2, v3, v4]) ce_50 (by rw [hm]) rfl rfl (by decide +kernel) rfl rfl hd
theorem ce_51 : (16, 96, 1, 320, 803, 0) ∈ calL := by decide +kernel
theorem c_51 {O : pO} {j n0 : Nat} {Q : pQ} {pc : Nat} {L : pL} {S : List pv} {n : Nat} {M : pM} {v1 v2 v3 : pv} (hm : mO j = 16) (hd : decode (mB j) pc = .ok (.invokestatic 96, 3)) : J O j n0 Q pc L (v3 :: v2 :: v1 :: S) n M = (stk S ≤ 8 ∧ mo O 320 [v1, v2, v3] n M (kV O j n0 Q (pc + 3) L S n)) := by
  have e : kR (mR 320) O j n0 Q (pc + 3) L S n = kV O j n0 Q (pc + 3) L S n := kR_V
  rw [← e]; exact J_callS (As := [v1, v2, v3]) ce_51 (by rw [hm]) rfl rfl (by decide +kernel) rfl rfl hd
theorem ce_52 : (16, 241, 1, 307, 806, 0) ∈ calL := by decide +kernel
theorem c_52 {O : pO} {j n0 : Nat} {Q : pQ} {pc : Nat} {L : pL} {S : List pv} {n : Nat} {M : pM} {v1 v2 v3 : pv} (hm : mO j = 16) (hd : decode (mB j) pc = .ok (.invokestatic 241, 3)) : J O j n0 Q pc L (v3 :: v2 :: v1 :: S) n M = (stk S ≤ 8 ∧ mo O 307 [v1, v2, v3] n M (kV O j n0 Q (pc + 3) L S n)) := by
  have e : kR (mR 307) O j n0 Q (pc + 3) L S n = kV O j n0 Q (pc + 3) L S n := kR_V
  rw [← e]; exact J_callS (As := [v1, v2, v3]) ce_52 (by rw [hm]) rfl rfl (by decide +kernel) rfl rfl hd
theorem ce_53 : (14, 1062, 1, 324, 809, 0) ∈ calL := by decide +kernel
theorem c_53 {O : pO} {j n0 : Nat} {Q : pQ} {pc : Nat} {L : pL} {S : List pv} {n : Nat} {M : pM} {v1 v2 v3 v4 : pv} (hm : mO j = 14) (hd : decode (mB j) pc = .ok (.invokestatic 1062, 3)) : J O j n0 Q pc L (v4 :: v3 :: v2 :: v1 :: S) n M = (stk S ≤ 8 ∧ mo O 324 [v1, v2, v3, v4] n M (kI O j n0 Q (pc + 3) L S n)) := by
  have e : kR (mR 324) O j n0 Q (pc + 3) L S n = kI O j n0 Q (pc + 3) L S n := kR_I (Or.inl rfl)
  rw [← e]; exact J_callS (As := [v1, v2, v3, v4]) ce_53 (by rw [hm]) rfl rfl (by decide +kernel) rfl rfl hd
theorem ce_54 : (16, 244, 1, 316, 812, 0) ∈ calL := by decide +kernel
theorem c_54 {O : pO} {j n0 : Nat} {Q : pQ} {pc : Nat} {L : pL} {S : List pv} {n : Nat} {M : pM} {v1 v2 v3 v4 : pv} (hm : mO j = 16) (hd : decode (mB j) pc = .ok (.invokestatic 244, 3)) : J O j n0 Q pc L (v4 :: v3 :: v2 :: v1 :: S) n M = (stk S ≤ 8 ∧ mo O 316 [v1, v2, v3, v4] n M (kI O j n0 Q (pc + 3) L S n)) := by
  have e : kR (mR 316) O j n0 Q (pc + 3) L S n = kI O j n0 Q (pc + 3) L S n := kR_I (Or.inl rfl)
  rw [← e]; exact J_callS (As := [v1, v2, v3, v4]) ce_54 (by rw [hm]) rfl rfl (by decide +kernel) rfl rfl hd
theorem ce_55 : (16, 232, 1, 317, 815, 0) ∈ calL := by decide +kernel
theorem c_55 {O : pO} {j n0 : Nat} {Q : pQ} {pc : Nat} {L : pL} {S : List pv} {n : Nat} {M : pM} {v1 v2 v3 v4 : pv} (hm : mO j = 16) (hd : decode (mB j) pc = .ok (.invokestatic 232, 3)) : J O j n0 Q pc L (v4 :: v3 :: v2 :: v1 :: S) n M = (stk S ≤ 8 ∧ mo O 317 [v1, v2, v3, v4] n M (kI O j n0 Q (pc + 3) L S n)) := by
  have e : kR (mR 317) O j n0 Q (pc + 3) L S n = kI O j n0 Q (pc + 3) L S n := kR_I (Or.inl rfl)
  rw [← e]; exact J_callS (As := [v1, v2, v3, v4]) ce_55 (by rw [hm]) rfl rfl (by decide +kernel) rfl rfl hd
theorem ce_56 : (16, 164, 1, 292, 818, 0) ∈ calL := by decide +kernel
theorem c_56 {O : pO} {j n0 : Nat} {Q : pQ} {pc : Nat} {L : pL} {S : List pv} {n : Nat} {M : pM} {v1 : pv} (hm : mO j = 16) (hd : decode (mB j) pc = .ok (.invokestatic 164, 3)) : J O j n0 Q pc L (v1 :: S) n M = (stk S ≤ 8 ∧ mo O 292 [v1] n M (kI O j n0 Q (pc + 3) L S n)) := by
  have e : kR (mR 292) O j n0 Q (pc + 3) L S n = kI O j n0 Q (pc + 3) L S n := kR_I (Or.inr (Or.inl rfl))
  rw [← e]; exact J_callS (As := [v1]) ce_56 (by rw [hm]) rfl rfl (by decide +kernel) rfl rfl hd
theorem ce_57 : (16, 157, 1, 293, 821, 0) ∈ calL := by decide +kernel
theorem c_57 {O : pO} {j n0 : Nat} {Q : pQ} {pc : Nat} {L : pL} {S : List pv} {n : Nat} {M : pM} {v1 : pv} (hm : mO j = 16) (hd : decode (mB j) pc = .ok (.invokestatic 157, 3)) : J O j n0 Q pc L (v1 :: S) n M = (stk S ≤ 8 ∧ mo O 293 [v1] n M (kI O j n0 Q (pc + 3) L S n)) := by
  have e : kR (mR 293) O j n0 Q (pc + 3) L S n = kI O j n0 Q (pc + 3) L S n := kR_I (Or.inr (Or.inr rfl))
  rw [← e]; exact J_callS (As := [v1]) ce_57 (by rw [hm]) rfl rfl (by decide +kernel) rfl rfl hd
theorem ce_58 : (16, 161, 1, 294, 825, 0) ∈ calL := by decide +kernel
theorem c_58 {O : pO} {j n0 : Nat} {Q : pQ} {pc : Nat} {L : pL} {S : List pv} {n : Nat} {M : pM} {v1 : pv} (hm : mO j = 16) (hd : decode (mB j) pc = .ok (.invokestatic 161, 3)) : J O j n0 Q pc L (v1 :: S) n M = (stk S ≤ 8 ∧ mo O 294 [v1] n M (kI O j n0 Q (pc + 3) L S n)) := by
  have e : kR (mR 294) O j n0 Q (pc + 3) L S n = kI O j n0 Q (pc + 3) L S n := kR_I (Or.inr (Or.inr rfl))
  rw [← e]; exact J_callS (As := [v1]) ce_58 (by rw [hm]) rfl rfl (by decide +kernel) rfl rfl hd
theorem ce_59 : (5, 37, 0, 65, 829, 0) ∈ calL := by decide +kernel
theorem c_59 {O : pO} {j n0 : Nat} {Q : pQ} {pc : Nat} {L : pL} {S : List pv} {n : Nat} {M : pM} {b : Nat} (hm : mO j = 5) (hd : decode (mB j) pc = .ok (.invokevirtual 37, 3)) : J O j n0 Q pc L (vr (b + 1) :: S) n M = (ob n b = 5 ∧ stk S ≤ 8 ∧ mo O 65 [vr (b + 1)] n M (kI O j n0 Q (pc + 3) L S n)) := by
  have e : kR (mR 65) O j n0 Q (pc + 3) L S n = kI O j n0 Q (pc + 3) L S n := kR_I (Or.inr (Or.inl rfl))
  rw [← e]; exact J_callV (As := []) ce_59 (by rw [hm]) rfl rfl (by decide +kernel) rfl rfl hd
theorem ce_60 : (5, 73, 0, 84, 833, 1) ∈ calL := by decide +kernel
theorem c_60 {O : pO} {j n0 : Nat} {Q : pQ} {pc : Nat} {L : pL} {S : List pv} {n : Nat} {M : pM} {b : Nat} (hm : mO j = 5) (hd : decode (mB j) pc = .ok (.invokevirtual 73, 3)) : J O j n0 Q pc L (vr (b + 1) :: S) n M = (ob n b = 7 ∧ stk S ≤ 8 ∧ mo O 84 [vr (b + 1)] n M (kV O j n0 Q (pc + 3) L S n)) := by
  have e : kR (mR 84) O j n0 Q (pc + 3) L S n = kV O j n0 Q (pc + 3) L S n := kR_V
  rw [← e]; exact J_callV (As := []) ce_60 (by rw [hm]) rfl rfl (by decide +kernel) rfl rfl hd
theorem ce_61 : (5, 76, 0, 95, 834, 1) ∈ calL := by decide +kernel
theorem c_61 {O : pO} {j n0 : Nat} {Q : pQ} {pc : Nat} {L : pL} {S : List pv} {n : Nat} {M : pM} {b : Nat} {v1 v2 : pv} (hm : mO j = 5) (hd : decode (mB j) pc = .ok (.invokevirtual 76, 3)) : J O j n0 Q pc L (v2 :: v1 :: vr (b + 1) :: S) n M = (ob n b = 7 ∧ stk S ≤ 8 ∧ mo O 95 [vr (b + 1), v1, v2] n M (kI O j n0 Q (pc + 3) L S n)) := by
  have e : kR (mR 95) O j n0 Q (pc + 3) L S n = kI O j n0 Q (pc + 3) L S n := kR_I (Or.inl rfl)
  rw [← e]; exact J_callV (As := [v1, v2]) ce_61 (by rw [hm]) rfl rfl (by decide +kernel) rfl rfl hd
theorem ce_62 : (7, 85, 0, 96, 838, 0) ∈ calL := by decide +kernel
theorem c_62 {O : pO} {j n0 : Nat} {Q : pQ} {pc : Nat} {L : pL} {S : List pv} {n : Nat} {M : pM} {b : Nat} {v1 : pv} (hm : mO j = 7) (hd : decode (mB j) pc = .ok (.invokevirtual 85, 3)) : J O j n0 Q pc L (v1 :: vr (b + 1) :: S) n M = (ob n b = 7 ∧ stk S ≤ 8 ∧ mo O 96 [vr (b + 1), v1] n M (kI O j n0 Q (pc + 3) L S n)) := by
  have e : kR (mR 96) O j n0 Q (pc + 3) L S n = kI O j n0 Q (pc + 3) L S n := kR_I (Or.inr (Or.inl rfl))
  rw [← e]; exact J_callV (As := [v1]) ce_62 (by rw [hm]) rfl rfl (by decide +kernel) rfl rfl hd
theorem ce_63 : (5, 83, 0, 97, 842, 1) ∈ calL := by decide +kernel
theorem c_63 {O : pO} {j n0 : Nat} {Q : pQ} {pc : Nat} {L : pL} {S : List pv} {n : Nat} {M : pM} {b : Nat} {v1 : pv} (hm : mO j = 5) (hd : decode (mB j) pc = .ok (.invokevirtual 83, 3)) : J O j n0 Q pc L (v1 :: vr (b + 1) :: S) n M = (ob n b = 7 ∧ stk S ≤ 8 ∧ mo O 97 [vr (b + 1), v1] n M (kI O j n0 Q (pc + 3) L S n)) := by
  have e : kR (mR 97) O j n0 Q (pc + 3) L S n = kI O j n0 Q (pc + 3) L S n := kR_I (Or.inr (Or.inl rfl))
  rw [← e]; exact J_callV (As := [v1]) ce_63 (by rw [hm]) rfl rfl (by decide +kernel) rfl rfl hd
theorem ce_64 : (5, 62, 0, 96, 846, 1) ∈ calL := by decide +kernel
theorem c_64 {O : pO} {j n0 : Nat} {Q : pQ} {pc : Nat} {L : pL} {S : List pv} {n : Nat} {M : pM} {b : Nat} {v1 : pv} (hm : mO j = 5) (hd : decode (mB j) pc = .ok (.invokevirtual 62, 3)) : J O j n0 Q pc L (v1 :: vr (b + 1) :: S) n M = (ob n b = 7 ∧ stk S ≤ 8 ∧ mo O 96 [vr (b + 1), v1] n M (kI O j n0 Q (pc + 3) L S n)) := by
  have e : kR (mR 96) O j n0 Q (pc + 3) L S n = kI O j n0 Q (pc + 3) L S n := kR_I (Or.inr (Or.inl rfl))
  rw [← e]; exact J_callV (As := [v1]) ce_64 (by rw [hm]) rfl rfl (by decide +kernel) rfl rfl hd
theorem ce_65 : (5, 86, 0, 89, 847, 1) ∈ calL := by decide +kernel
theorem c_65 {O : pO} {j n0 : Nat} {Q : pQ} {pc : Nat} {L : pL} {S : List pv} {n : Nat} {M : pM} {b : Nat} (hm : mO j = 5) (hd : decode (mB j) pc = .ok (.invokevirtual 86, 3)) : J O j n0 Q pc L (vr (b + 1) :: S) n M = (ob n b = 7 ∧ stk S ≤ 8 ∧ mo O 89 [vr (b + 1)] n M (kI O j n0 Q (pc + 3) L S n)) := by
  have e : kR (mR 89) O j n0 Q (pc + 3) L S n = kI O j n0 Q (pc + 3) L S n := kR_I (Or.inl rfl)
  rw [← e]; exact J_callV (As := []) ce_65 (by rw [hm]) rfl rfl (by decide +kernel) rfl rfl hd
theorem ce_66 : (5, 90, 0, 90, 851, 1) ∈ calL := by decide +kernel
theorem c_66 {O : pO} {j n0 : Nat} {Q : pQ} {pc : Nat} {L : pL} {S : List pv} {n : Nat} {M : pM} {b : Nat} {v1 : pv} (hm : mO j = 5) (hd : decode (mB j) pc = .ok (.invokevirtual 90, 3)) : J O j n0 Q pc L (v1 :: vr (b + 1) :: S) n M = (ob n b = 7 ∧ stk S ≤ 8 ∧ mo O 90 [vr (b + 1), v1] n M (kI O j n0 Q (pc + 3) L S n)) := by
  have e : kR (mR 90) O j n0 Q (pc + 3) L S n = kI O j n0 Q (pc + 3) L S n := kR_I (Or.inl rfl)
  rw [← e]; exact J_callV (As := [v1]) ce_66 (by rw [hm]) rfl rfl (by decide +kernel) rfl rfl hd
theorem ce_67 : (7, 78, 0, 89, 855, 0) ∈ calL := by decide +kernel
theorem c_67 {O : pO} {j n0 : Nat} {Q : pQ} {pc : Nat} {L : pL} {S : List pv} {n : Nat} {M : pM} {b : Nat} (hm : mO j = 7) (hd : decode (mB j) pc = .ok (.invokevirtual 78, 3)) : J O j n0 Q pc L (vr (b + 1) :: S) n M = (ob n b = 7 ∧ stk S ≤ 8 ∧ mo O 89 [vr (b + 1)] n M (kI O j n0 Q (pc + 3) L S n)) := by
  have e : kR (mR 89) O j n0 Q (pc + 3) L S n = kI O j n0 Q (pc + 3) L S n := kR_I (Or.inl rfl)
  rw [← e]; exact J_callV (As := []) ce_67 (by rw [hm]) rfl rfl (by decide +kernel) rfl rfl hd
theorem ce_68 : (5, 41, 0, 66, 856, 0) ∈ calL := by decide +kernel
theorem c_68 {O : pO} {j n0 : Nat} {Q : pQ} {pc : Nat} {L : pL} {S : List pv} {n : Nat} {M : pM} {b : Nat} (hm : mO j = 5) (hd : decode (mB j) pc = .ok (.invokevirtual 41, 3)) : J O j n0 Q pc L (vr (b + 1) :: S) n M = (ob n b = 5 ∧ stk S ≤ 8 ∧ mo O 66 [vr (b + 1)] n M (kI O j n0 Q (pc + 3) L S n)) := by
  have e : kR (mR 66) O j n0 Q (pc + 3) L S n = kI O j n0 Q (pc + 3) L S n := kR_I (Or.inr (Or.inl rfl))
  rw [← e]; exact J_callV (As := []) ce_68 (by rw [hm]) rfl rfl (by decide +kernel) rfl rfl hd
theorem ce_69 : (5, 44, 0, 68, 860, 0) ∈ calL := by decide +kernel
theorem c_69 {O : pO} {j n0 : Nat} {Q : pQ} {pc : Nat} {L : pL} {S : List pv} {n : Nat} {M : pM} {b : Nat} (hm : mO j = 5) (hd : decode (mB j) pc = .ok (.invokevirtual 44, 3)) : J O j n0 Q pc L (vr (b + 1) :: S) n M = (ob n b = 5 ∧ stk S ≤ 8 ∧ mo O 68 [vr (b + 1)] n M (kI O j n0 Q (pc + 3) L S n)) := by
  have e : kR (mR 68) O j n0 Q (pc + 3) L S n = kI O j n0 Q (pc + 3) L S n := kR_I (Or.inr (Or.inl rfl))
  rw [← e]; exact J_callV (As := []) ce_69 (by rw [hm]) rfl rfl (by decide +kernel) rfl rfl hd
theorem ce_70 : (5, 107, 0, 67, 864, 0) ∈ calL := by decide +kernel
theorem c_70 {O : pO} {j n0 : Nat} {Q : pQ} {pc : Nat} {L : pL} {S : List pv} {n : Nat} {M : pM} {b : Nat} {v1 : pv} (hm : mO j = 5) (hd : decode (mB j) pc = .ok (.invokevirtual 107, 3)) : J O j n0 Q pc L (v1 :: vr (b + 1) :: S) n M = (ob n b = 5 ∧ stk S ≤ 8 ∧ mo O 67 [vr (b + 1), v1] n M (kI O j n0 Q (pc + 3) L S n)) := by
  have e : kR (mR 67) O j n0 Q (pc + 3) L S n = kI O j n0 Q (pc + 3) L S n := kR_I (Or.inl rfl)
  rw [← e]; exact J_callV (As := [v1]) ce_70 (by rw [hm]) rfl rfl (by decide +kernel) rfl rfl hd
theorem ce_71 : (5, 111, 0, 69, 868, 0) ∈ calL := by decide +kernel
theorem c_71 {O : pO} {j n0 : Nat} {Q : pQ} {pc : Nat} {L : pL} {S : List pv} {n : Nat} {M : pM} {b : Nat} (hm : mO j = 5) (hd : decode (mB j) pc = .ok (.invokevirtual 111, 3)) : J O j n0 Q pc L (vr (b + 1) :: S) n M = (ob n b = 5 ∧ stk S ≤ 8 ∧ mo O 69 [vr (b + 1)] n M (kI O j n0 Q (pc + 3) L S n)) := by
  have e : kR (mR 69) O j n0 Q (pc + 3) L S n = kI O j n0 Q (pc + 3) L S n := kR_I (Or.inl rfl)
  rw [← e]; exact J_callV (As := []) ce_71 (by rw [hm]) rfl rfl (by decide +kernel) rfl rfl hd
theorem ce_72 : (5, 47, 0, 70, 872, 0) ∈ calL := by decide +kernel
theorem c_72 {O : pO} {j n0 : Nat} {Q : pQ} {pc : Nat} {L : pL} {S : List pv} {n : Nat} {M : pM} {b : Nat} (hm : mO j = 5) (hd : decode (mB j) pc = .ok (.invokevirtual 47, 3)) : J O j n0 Q pc L (vr (b + 1) :: S) n M = (ob n b = 5 ∧ stk S ≤ 8 ∧ mo O 70 [vr (b + 1)] n M (kI O j n0 Q (pc + 3) L S n)) := by
  have e : kR (mR 70) O j n0 Q (pc + 3) L S n = kI O j n0 Q (pc + 3) L S n := kR_I (Or.inr (Or.inl rfl))
  rw [← e]; exact J_callV (As := []) ce_72 (by rw [hm]) rfl rfl (by decide +kernel) rfl rfl hd
theorem ce_73 : (5, 50, 0, 73, 876, 0) ∈ calL := by decide +kernel
theorem c_73 {O : pO} {j n0 : Nat} {Q : pQ} {pc : Nat} {L : pL} {S : List pv} {n : Nat} {M : pM} {b : Nat} (hm : mO j = 5) (hd : decode (mB j) pc = .ok (.invokevirtual 50, 3)) : J O j n0 Q pc L (vr (b + 1) :: S) n M = (ob n b = 5 ∧ stk S ≤ 8 ∧ mo O 73 [vr (b + 1)] n M (kI O j n0 Q (pc + 3) L S n)) := by
  have e : kR (mR 73) O j n0 Q (pc + 3) L S n = kI O j n0 Q (pc + 3) L S n := kR_I (Or.inr (Or.inl rfl))
  rw [← e]; exact J_callV (As := []) ce_73 (by rw [hm]) rfl rfl (by decide +kernel) rfl rfl hd
theorem ce_74 : (5, 123, 0, 71, 880, 0) ∈ calL := by decide +kernel
theorem c_74 {O : pO} {j n0 : Nat} {Q : pQ} {pc : Nat} {L : pL} {S : List pv} {n : Nat} {M : pM} {b : Nat} (hm : mO j = 5) (hd : decode (mB j) pc = .ok (.invokevirtual 123, 3)) : J O j n0 Q pc L (vr (b + 1) :: S) n M = (ob n b = 5 ∧ stk S ≤ 8 ∧ mo O 71 [vr (b + 1)] n M (kI O j n0 Q (pc + 3) L S n)) := by
  have e : kR (mR 71) O j n0 Q (pc + 3) L S n = kI O j n0 Q (pc + 3) L S n := kR_I (Or.inl rfl)
  rw [← e]; exact J_callV (As := []) ce_74 (by rw [hm]) rfl rfl (by decide +kernel) rfl rfl hd
theorem ce_75 : (5, 126, 0, 72, 884, 0) ∈ calL := by decide +kernel
theorem c_75 {O : pO} {j n0 : Nat} {Q : pQ} {pc : Nat} {L : pL} {S : List pv} {n : Nat} {M : pM} {b : Nat} {v1 v2 v3 : pv} (hm : mO j = 5) (hd : decode (mB j) pc = .ok (.invokevirtual 126, 3)) : J O j n0 Q pc L (v3 :: v2 :: v1 :: vr (b + 1) :: S) n M = (ob n b = 5 ∧ stk S ≤ 8 ∧ mo O 72 [vr (b + 1), v1, v2, v3] n M (kI O j n0 Q (pc + 3) L S n)) := by
  have e : kR (mR 72) O j n0 Q (pc + 3) L S n = kI O j n0 Q (pc + 3) L S n := kR_I (Or.inl rfl)
  rw [← e]; exact J_callV (As := [v1, v2, v3]) ce_75 (by rw [hm]) rfl rfl (by decide +kernel) rfl rfl hd
theorem ce_76 : (5, 117, 0, 94, 888, 1) ∈ calL := by decide +kernel
theorem c_76 {O : pO} {j n0 : Nat} {Q : pQ} {pc : Nat} {L : pL} {S : List pv} {n : Nat} {M : pM} {b : Nat} {v1 : pv} (hm : mO j = 5) (hd : decode (mB j) pc = .ok (.invokevirtual 117, 3)) : J O j n0 Q pc L (v1 :: vr (b + 1) :: S) n M = (ob n b = 7 ∧ stk S ≤ 8 ∧ mo O 94 [vr (b + 1), v1] n M (kI O j n0 Q (pc + 3) L S n)) := by
  have e : kR (mR 94) O j n0 Q (pc + 3) L S n = kI O j n0 Q (pc + 3) L S n := kR_I (Or.inr (Or.inl rfl))
  rw [← e]; exact J_callV (As := [v1]) ce_76 (by rw [hm]) rfl rfl (by decide +kernel) rfl rfl hd
theorem ce_77 : (7, 89, 0, 92, 892, 0) ∈ calL := by decide +kernel
theorem c_77 {O : pO} {j n0 : Nat} {Q : pQ} {pc : Nat} {L : pL} {S : List pv} {n : Nat} {M : pM} {b : Nat} {v1 : pv} (hm : mO j = 7) (hd : decode (mB j) pc = .ok (.invokevirtual 89, 3)) : J O j n0 Q pc L (v1 :: vr (b + 1) :: S) n M = (ob n b = 7 ∧ stk S ≤ 8 ∧ mo O 92 [vr (b + 1), v1] n M (kI O j n0 Q (pc + 3) L S n)) := by
  have e : kR (mR 92) O j n0 Q (pc + 3) L S n = kI O j n0 Q (pc + 3) L S n := kR_I (Or.inr (Or.inl rfl))
  rw [← e]; exact J_callV (As := [v1]) ce_77 (by rw [hm]) rfl rfl (by decide +kernel) rfl rfl hd
theorem ce_78 : (5, 53, 0, 74, 896, 0) ∈ calL := by decide +kernel
theorem c_78 {O : pO} {j n0 : Nat} {Q : pQ} {pc : Nat} {L : pL} {S : List pv} {n : Nat} {M : pM} {b : Nat} (hm : mO j = 5) (hd : decode (mB j) pc = .ok (.invokevirtual 53, 3)) : J O j n0 Q pc L (vr (b + 1) :: S) n M = (ob n b = 5 ∧ stk S ≤ 8 ∧ mo O 74 [vr (b + 1)] n M (kI O j n0 Q (pc + 3) L S n)) := by
  have e : kR (mR 74) O j n0 Q (pc + 3) L S n = kI O j n0 Q (pc + 3) L S n := kR_I (Or.inr (Or.inl rfl))
  rw [← e]; exact J_callV (As := []) ce_78 (by rw [hm]) rfl rfl (by decide +kernel) rfl rfl hd
theorem ce_79 : (5, 56, 0, 75, 900, 0) ∈ calL := by decide +kernel
theorem c_79 {O : pO} {j n0 : Nat} {Q : pQ} {pc : Nat} {L : pL} {S : List pv} {n : Nat} {M : pM} {b : Nat} (hm : mO j = 5) (hd : decode (mB j) pc = .ok (.invokevirtual 56, 3)) : J O j n0 Q pc L (vr (b + 1) :: S) n M = (ob n b = 5 ∧ stk S ≤ 8 ∧ mo O 75 [vr (b + 1)] n M (kI O j n0 Q (pc + 3) L S n)) := by
  have e : kR (mR 75) O j n0 Q (pc + 3) L S n = kI O j n0 Q (pc + 3) L S n := kR_I (Or.inr (Or.inl rfl))
  rw [← e]; exact J_callV (As := []) ce_79 (by rw [hm]) rfl rfl (by decide +kernel) rfl rfl hd
theorem ce_80 : (5, 59, 0, 76, 904, 0) ∈ calL := by decide +kernel
theorem c_80 {O : pO} {j n0 : Nat} {Q : pQ} {pc : Nat} {L : pL} {S : List pv} {n : Nat} {M : pM} {b : Nat} (hm : mO j = 5) (hd : decode (mB j) pc = .ok (.invokevirtual 59, 3)) : J O j n0 Q pc L (vr (b + 1) :: S) n M = (ob n b = 5 ∧ stk S ≤ 8 ∧ mo O 76 [vr (b + 1)] n M (kI O j n0 Q (pc + 3) L S n)) := by
  have e : kR (mR 76) O j n0 Q (pc + 3) L S n = kI O j n0 Q (pc + 3) L S n := kR_I (Or.inr (Or.inl rfl))
  rw [← e]; exact J_callV (As := []) ce_80 (by rw [hm]) rfl rfl (by decide +kernel) rfl rfl hd
theorem ce_81 : (5, 146, 0, 88, 908, 1) ∈ calL := by decide +kernel
theorem c_81 {O : pO} {j n0 : Nat} {Q : pQ} {pc : Nat} {L : pL} {S : List pv} {n : Nat} {M : pM} {b : Nat} (hm : mO j = 5) (hd : decode (mB j) pc = .ok (.invokevirtual 146, 3)) : J O j n0 Q pc L (vr (b + 1) :: S) n M = (ob n b = 7 ∧ stk S ≤ 8 ∧ mo O 88 [vr (b + 1)] n M (kL O j n0 Q (pc + 3) L S n)) := by
  have e : kR (mR 88) O j n0 Q (pc + 3) L S n = kL O j n0 Q (pc + 3) L S n := kR_L
  rw [← e]; exact J_callV (As := []) ce_81 (by rw [hm]) rfl rfl (by decide +kernel) rfl rfl hd
theorem ce_82 : (5, 150, 0, 50, 913, 1) ∈ calL := by decide +kernel
theorem c_82 {O : pO} {j n0 : Nat} {Q : pQ} {pc : Nat} {L : pL} {S : List pv} {n : Nat} {M : pM} {b : Nat} {v1 : pv} (hm : mO j = 5) (hd : decode (mB j) pc = .ok (.invokevirtual 150, 3)) : J O j n0 Q pc L (v1 :: vr (b + 1) :: S) n M = (ob n b = 4 ∧ stk S ≤ 8 ∧ mo O 50 [vr (b + 1), v1] n M (kI O j n0 Q (pc + 3) L S n)) := by
  have e : kR (mR 50) O j n0 Q (pc + 3) L S n = kI O j n0 Q (pc + 3) L S n := kR_I (Or.inr (Or.inl rfl))
  rw [← e]; exact J_callV (As := [v1]) ce_82 (by rw [hm]) rfl rfl (by decide +kernel) rfl rfl hd
theorem ce_83 : (5, 154, 0, 77, 917, 0) ∈ calL := by decide +kernel
theorem c_83 {O : pO} {j n0 : Nat} {Q : pQ} {pc : Nat} {L : pL} {S : List pv} {n : Nat} {M : pM} {b : Nat} {v1 : pv} (hm : mO j = 5) (hd : decode (mB j) pc = .ok (.invokevirtual 154, 3)) : J O j n0 Q pc L (v1 :: vr (b + 1) :: S) n M = (ob n b = 5 ∧ stk S ≤ 8 ∧ mo O 77 [vr (b + 1), v1] n M (kI O j n0 Q (pc + 3) L S n)) := by
  have e : kR (mR 77) O j n0 Q (pc + 3) L S n = kI O j n0 Q (pc + 3) L S n := kR_I (Or.inr (Or.inl rfl))
  rw [← e]; exact J_callV (As := [v1]) ce_83 (by rw [hm]) rfl rfl (by decide +kernel) rfl rfl hd
theorem ce_84 : (5, 66, 0, 93, 921, 1) ∈ calL := by decide +kernel
theorem c_84 {O : pO} {j n0 : Nat} {Q : pQ} {pc : Nat} {L : pL} {S : List pv} {n : Nat} {M : pM} {b : Nat} {v1 : pv} (hm : mO j = 5) (hd : decode (mB j) pc = .ok (.invokevirtual 66, 3)) : J O j n0 Q pc L (v1 :: vr (b + 1) :: S) n M = (ob n b = 7 ∧ stk S ≤ 8 ∧ mo O 93 [vr (b + 1), v1] n M (kI O j n0 Q (pc + 3) L S n)) := by
  have e : kR (mR 93) O j n0 Q (pc + 3) L S n = kI O j n0 Q (pc + 3) L S n := kR_I (Or.inr (Or.inl rfl))
  rw [← e]; exact J_callV (As := [v1]) ce_84 (by rw [hm]) rfl rfl (by decide +kernel) rfl rfl hd
theorem ce_85 : (7, 81, 0, 91, 925, 0) ∈ calL := by decide +kernel
theorem c_85 {O : pO} {j n0 : Nat} {Q : pQ} {pc : Nat} {L : pL} {S : List pv} {n : Nat} {M : pM} {b : Nat} {v1 : pv} (hm : mO j = 7) (hd : decode (mB j) pc = .ok (.invokevirtual 81, 3)) : J O j n0 Q pc L (v1 :: vr (b + 1) :: S) n M = (ob n b = 7 ∧ stk S ≤ 8 ∧ mo O 91 [vr (b + 1), v1] n M (kI O j n0 Q (pc + 3) L S n)) := by
  have e : kR (mR 91) O j n0 Q (pc + 3) L S n = kI O j n0 Q (pc + 3) L S n := kR_I (Or.inr (Or.inl rfl))
  rw [← e]; exact J_callV (As := [v1]) ce_85 (by rw [hm]) rfl rfl (by decide +kernel) rfl rfl hd
theorem ce_86 : (11, 116, 0, 162, 929, 0) ∈ calL := by decide +kernel
theorem c_86 {O : pO} {j n0 : Nat} {Q : pQ} {pc : Nat} {L : pL} {S : List pv} {n : Nat} {M : pM} {b : Nat} (hm : mO j = 11) (hd : decode (mB j) pc = .ok (.invokevirtual 116, 3)) : J O j n0 Q pc L (vr (b + 1) :: S) n M = (ob n b = 11 ∧ stk S ≤ 8 ∧ mo O 162 [vr (b + 1)] n M (kV O j n0 Q (pc + 3) L S n)) := by
  have e : kR (mR 162) O j n0 Q (pc + 3) L S n = kV O j n0 Q (pc + 3) L S n := kR_V
  rw [← e]; exact J_callV (As := []) ce_86 (by rw [hm]) rfl rfl (by decide +kernel) rfl rfl hd
theorem ce_87 : (11, 119, 0, 114, 933, 1) ∈ calL := by decide +kernel
theorem c_87 {O : pO} {j n0 : Nat} {Q : pQ} {pc : Nat} {L : pL} {S : List pv} {n : Nat} {M : pM} {b : Nat} (hm : mO j = 11) (hd : decode (mB j) pc = .ok (.invokevirtual 119, 3)) : J O j n0 Q pc L (vr (b + 1) :: S) n M = (ob n b = 9 ∧ stk S ≤ 8 ∧ mo O 114 [vr (b + 1)] n M (kV O j n0 Q (pc + 3) L S n)) := by
  have e : kR (mR 114) O j n0 Q (pc + 3) L S n = kV O j n0 Q (pc + 3) L S n := kR_V
  rw [← e]; exact J_callV (As := []) ce_87 (by rw [hm]) rfl rfl (by decide +kernel) rfl rfl hd
theorem ce_88 : (11, 122, 0, 122, 937, 1) ∈ calL := by decide +kernel
theorem c_88 {O : pO} {j n0 : Nat} {Q : pQ} {pc : Nat} {L : pL} {S : List pv} {n : Nat} {M : pM} {b : Nat} (hm : mO j = 11) (hd : decode (mB j) pc = .ok (.invokevirtual 122, 3)) : J O j n0 Q pc L (vr (b + 1) :: S) n M = (ob n b = 10 ∧ stk S ≤ 8 ∧ mo O 122 [vr (b + 1)] n M (kI O j n0 Q (pc + 3) L S n)) := by
  have e : kR (mR 122) O j n0 Q (pc + 3) L S n = kI O j n0 Q (pc + 3) L S n := kR_I (Or.inl rfl)
  rw [← e]; exact J_callV (As := []) ce_88 (by rw [hm]) rfl rfl (by decide +kernel) rfl rfl hd
theorem ce_89 : (11, 125, 0, 8, 941, 1) ∈ calL := by decide +kernel
theorem c_89 {O : pO} {j n0 : Nat} {Q : pQ} {pc : Nat} {L : pL} {S : List pv} {n : Nat} {M : pM} {b : Nat} (hm : mO j = 11) (hd : decode (mB j) pc = .ok (.invokevirtual 125, 3)) : J O j n0 Q pc L (vr (b + 1) :: S) n M = (ob n b = 1 ∧ stk S ≤ 8 ∧ mo O 8 [vr (b + 1)] n M (kV O j n0 Q (pc + 3) L S n)) := by
  have e : kR (mR 8) O j n0 Q (pc + 3) L S n = kV O j n0 Q (pc + 3) L S n := kR_V
  rw [← e]; exact J_callV (As := []) ce_89 (by rw [hm]) rfl rfl (by decide +kernel) rfl rfl hd
theorem ce_90 : (13, 28, 0, 132, 946, 0) ∈ calL := by decide +kernel
theorem c_90 {O : pO} {j n0 : Nat} {Q : pQ} {pc : Nat} {L : pL} {S : List pv} {n : Nat} {M : pM} {b : Nat} (hm : mO j = 13) (hd : decode (mB j) pc = .ok (.invokevirtual 28, 3)) : J O j n0 Q pc L (vr (b + 1) :: S) n M = (ob n b = 11 ∧ stk S ≤ 8 ∧ mo O 132 [vr (b + 1)] n M (kI O j n0 Q (pc + 3) L S n)) := by
  have e : kR (mR 132) O j n0 Q (pc + 3) L S n = kI O j n0 Q (pc + 3) L S n := kR_I (Or.inl rfl)
  rw [← e]; exact J_callV (As := []) ce_90 (by rw [hm]) rfl rfl (by decide +kernel) rfl rfl hd
theorem ce_91 : (11, 131, 0, 36, 950, 1) ∈ calL := by decide +kernel
theorem c_91 {O : pO} {j n0 : Nat} {Q : pQ} {pc : Nat} {L : pL} {S : List pv} {n : Nat} {M : pM} {b : Nat} {v1 : pv} (hm : mO j = 11) (hd : decode (mB j) pc = .ok (.invokevirtual 131, 3)) : J O j n0 Q pc L (v1 :: vr (b + 1) :: S) n M = (ob n b = 3 ∧ stk S ≤ 8 ∧ mo O 36 [vr (b + 1), v1] n M (kI O j n0 Q (pc + 3) L S n)) := by
  have e : kR (mR 36) O j n0 Q (pc + 3) L S n = kI O j n0 Q (pc + 3) L S n := kR_I (Or.inr (Or.inl rfl))
  rw [← e]; exact J_callV (As := [v1]) ce_91 (by rw [hm]) rfl rfl (by decide +kernel) rfl rfl hd
theorem ce_92 : (3, 25, 0, 83, 954, 1) ∈ calL := by decide +kernel
theorem c_92 {O : pO} {j n0 : Nat} {Q : pQ} {pc : Nat} {L : pL} {S : List pv} {n : Nat} {M : pM} {b : Nat} {v1 : pv} (hm : mO j = 3) (hd : decode (mB j) pc = .ok (.invokevirtual 25, 3)) : J O j n0 Q pc L (v1 :: vr (b + 1) :: S) n M = (ob n b = 7 ∧ stk S ≤ 8 ∧ mo O 83 [vr (b + 1), v1] n M (kV O j n0 Q (pc + 3) L S n)) := by
  have e : kR (mR 83) O j n0 Q (pc + 3) L S n = kV O j n0 Q (pc + 3) L S n := kR_V
  rw [← e]; exact J_callV (As := [v1]) ce_92 (by rw [hm]) rfl rfl (by decide +kernel) rfl rfl hd
theorem ce_93 : (3, 38, 0, 94, 955, 1) ∈ calL := by decide +kernel
theorem c_93 {O : pO} {j n0 : Nat} {Q : pQ} {pc : Nat} {L : pL} {S : List pv} {n : Nat} {M : pM} {b : Nat} {v1 : pv} (hm : mO j = 3) (hd : decode (mB j) pc = .ok (.invokevirtual 38, 3)) : J O j n0 Q pc L (v1 :: vr (b + 1) :: S) n M = (ob n b = 7 ∧ stk S ≤ 8 ∧ mo O 94 [vr (b + 1), v1] n M (kI O j n0 Q (pc + 3) L S n)) := by
  have e : kR (mR 94) O j n0 Q (pc + 3) L S n = kI O j n0 Q (pc + 3) L S n := kR_I (Or.inr (Or.inl rfl))
  rw [← e]; exact J_callV (As := [v1]) ce_93 (by rw [hm]) rfl rfl (by decide +kernel) rfl rfl hd
theorem ce_94 : (3, 42, 0, 38, 956, 0) ∈ calL := by decide +kernel
theorem c_94 {O : pO} {j n0 : Nat} {Q : pQ} {pc : Nat} {L : pL} {S : List pv} {n : Nat} {M : pM} {b : Nat} {v1 : pv} (hm : mO j = 3) (hd : decode (mB j) pc = .ok (.invokevirtual 42, 3)) : J O j n0 Q pc L (v1 :: vr (b + 1) :: S) n M = (ob n b = 3 ∧ stk S ≤ 8 ∧ mo O 38 [vr (b + 1), v1] n M (kI O j n0 Q (pc + 3) L S n)) := by
  have e : kR (mR 38) O j n0 Q (pc + 3) L S n = kI O j n0 Q (pc + 3) L S n := kR_I (Or.inr (Or.inl rfl))
  rw [← e]; exact J_callV (As := [v1]) ce_94 (by rw [hm]) rfl rfl (by decide +kernel) rfl rfl hd
theorem ce_95 : (3, 58, 0, 39, 960, 0) ∈ calL := by decide +kernel
theorem c_95 {O : pO} {j n0 : Nat} {Q : pQ} {pc : Nat} {L : pL} {S : List pv} {n : Nat} {M : pM} {b : Nat} {v1 : pv} (hm : mO j = 3) (hd : decode (mB j) pc = .ok (.invokevirtual 58, 3)) : J O j n0 Q pc L (v1 :: vr (b + 1) :: S) n M = (ob n b = 3 ∧ stk S ≤ 8 ∧ mo O 39 [vr (b + 1), v1] n M (kI O j n0 Q (pc + 3) L S n)) := by
  have e : kR (mR 39) O j n0 Q (pc + 3) L S n = kI O j n0 Q (pc + 3) L S n := kR_I (Or.inr (Or.inl rfl))
  rw [← e]; exact J_callV (As := [v1]) ce_95 (by rw [hm]) rfl rfl (by decide +kernel) rfl rfl hd
theorem ce_96 : (3, 70, 0, 40, 964, 0) ∈ calL := by decide +kernel
theorem c_96 {O : pO} {j n0 : Nat} {Q : pQ} {pc : Nat} {L : pL} {S : List pv} {n : Nat} {M : pM} {b : Nat} {v1 : pv} (hm : mO j = 3) (hd : decode (mB j) pc = .ok (.invokevirtual 70, 3)) : J O j n0 Q pc L (v1 :: vr (b + 1) :: S) n M = (ob n b = 3 ∧ stk S ≤ 8 ∧ mo O 40 [vr (b + 1), v1] n M (kI O j n0 Q (pc + 3) L S n)) := by
  have e : kR (mR 40) O j n0 Q (pc + 3) L S n = kI O j n0 Q (pc + 3) L S n := kR_I (Or.inr (Or.inl rfl))
  rw [← e]; exact J_callV (As := [v1]) ce_96 (by rw [hm]) rfl rfl (by decide +kernel) rfl rfl hd
theorem ce_97 : (3, 61, 0, 92, 968, 1) ∈ calL := by decide +kernel
theorem c_97 {O : pO} {j n0 : Nat} {Q : pQ} {pc : Nat} {L : pL} {S : List pv} {n : Nat} {M : pM} {b : Nat} {v1 : pv} (hm : mO j = 3) (hd : decode (mB j) pc = .ok (.invokevirtual 61, 3)) : J O j n0 Q pc L (v1 :: vr (b + 1) :: S) n M = (ob n b = 7 ∧ stk S ≤ 8 ∧ mo O 92 [vr (b + 1), v1] n M (kI O j n0 Q (pc + 3) L S n)) := by
  have e : kR (mR 92) O j n0 Q (pc + 3) L S n = kI O j n0 Q (pc + 3) L S n := kR_I (Or.inr (Or.inl rfl))
  rw [← e]; exact J_callV (As := [v1]) ce_97 (by rw [hm]) rfl rfl (by decide +kernel) rfl rfl hd
theorem ce_98 : (3, 52, 0, 96, 969, 1) ∈ calL := by decide +kernel
theorem c_98 {O : pO} {j n0 : Nat} {Q : pQ} {pc : Nat} {L : pL} {S : List pv} {n : Nat} {M : pM} {b : Nat} {v1 : pv} (hm : mO j = 3) (hd : decode (mB j) pc = .ok (.invokevirtual 52, 3)) : J O j n0 Q pc L (v1 :: vr (b + 1) :: S) n M = (ob n b = 7 ∧ stk S ≤ 8 ∧ mo O 96 [vr (b + 1), v1] n M (kI O j n0 Q (pc + 3) L S n)) := by
  have e : kR (mR 96) O j n0 Q (pc + 3) L S n = kI O j n0 Q (pc + 3) L S n := kR_I (Or.inr (Or.inl rfl))
  rw [← e]; exact J_callV (As := [v1]) ce_98 (by rw [hm]) rfl rfl (by decide +kernel) rfl rfl hd
theorem ce_99 : (3, 64, 0, 84, 970, 1) ∈ calL := by decide +kernel
theorem c_99 {O : pO} {j n0 : Nat} {Q : pQ} {pc : Nat} {L : pL} {S : List pv} {n : Nat} {M : pM} {b : Nat} (hm : mO j = 3) (hd : decode (mB j) pc = .ok (.invokevirtual 64, 3)) : J O j n0 Q pc L (vr (b + 1) :: S) n M = (ob n b = 7 ∧ stk S ≤ 8 ∧ mo O 84 [vr (b + 1)] n M (kV O j n0 Q (pc + 3) L S n)) := by
  have e : kR (mR 84) O j n0 Q (pc + 3) L S n = kV O j n0 Q (pc + 3) L S n := kR_V
  rw [← e]; exact J_callV (As := []) ce_99 (by rw [hm]) rfl rfl (by decide +kernel) rfl rfl hd
theorem ce_100 : (3, 67, 0, 37, 971, 0) ∈ calL := by decide +kernel
theorem c_100 {O : pO} {j n0 : Nat} {Q : pQ} {pc : Nat} {L : pL} {S : List pv} {n : Nat} {M : pM} {b : Nat} {v1 : pv} (hm : mO j = 3) (hd : decode (mB j) pc = .ok (.invokevirtual 67, 3)) : J O j n0 Q pc L (v1 :: vr (b + 1) :: S) n M = (ob n b = 3 ∧ stk S ≤ 8 ∧ mo O 37 [vr (b + 1), v1] n M (kV O j n0 Q (pc + 3) L S n)) := by
  have e : kR (mR 37) O j n0 Q (pc + 3) L S n = kV O j n0 Q (pc + 3) L S n := kR_V
  rw [← e]; exact J_callV (As := [v1]) ce_100 (by rw [hm]) rfl rfl (by decide +kernel) rfl rfl hd
theorem ce_101 : (3, 73, 0, 41, 975, 0) ∈ calL := by decide +kernel
theorem c_101 {O : pO} {j n0 : Nat} {Q : pQ} {pc : Nat} {L : pL} {S : List pv} {n : Nat} {M : pM} {b : Nat} {v1 : pv} (hm : mO j = 3) (hd : decode (mB j) pc = .ok (.invokevirtual 73, 3)) : J O j n0 Q pc L (v1 :: vr (b + 1) :: S) n M = (ob n b = 3 ∧ stk S ≤ 8 ∧ mo O 41 [vr (b + 1), v1] n M (kI O j n0 Q (pc + 3) L S n)) := by
  have e : kR (mR 41) O j n0 Q (pc + 3) L S n = kI O j n0 Q (pc + 3) L S n := kR_I (Or.inr (Or.inl rfl))
  rw [← e]; exact J_callV (As := [v1]) ce_101 (by rw [hm]) rfl rfl (by decide +kernel) rfl rfl hd
theorem ce_102 : (3, 82, 0, 42, 979, 0) ∈ calL := by decide +kernel
theorem c_102 {O : pO} {j n0 : Nat} {Q : pQ} {pc : Nat} {L : pL} {S : List pv} {n : Nat} {M : pM} {b : Nat} {v1 : pv} (hm : mO j = 3) (hd : decode (mB j) pc = .ok (.invokevirtual 82, 3)) : J O j n0 Q pc L (v1 :: vr (b + 1) :: S) n M = (ob n b = 3 ∧ stk S ≤ 8 ∧ mo O 42 [vr (b + 1), v1] n M (kI O j n0 Q (pc + 3) L S n)) := by
  have e : kR (mR 42) O j n0 Q (pc + 3) L S n = kI O j n0 Q (pc + 3) L S n := kR_I (Or.inr (Or.inl rfl))
  rw [← e]; exact J_callV (As := [v1]) ce_102 (by rw [hm]) rfl rfl (by decide +kernel) rfl rfl hd
theorem ce_103 : (3, 85, 0, 43, 983, 0) ∈ calL := by decide +kernel
theorem c_103 {O : pO} {j n0 : Nat} {Q : pQ} {pc : Nat} {L : pL} {S : List pv} {n : Nat} {M : pM} {b : Nat} {v1 : pv} (hm : mO j = 3) (hd : decode (mB j) pc = .ok (.invokevirtual 85, 3)) : J O j n0 Q pc L (v1 :: vr (b + 1) :: S) n M = (ob n b = 3 ∧ stk S ≤ 8 ∧ mo O 43 [vr (b + 1), v1] n M (kI O j n0 Q (pc + 3) L S n)) := by
  have e : kR (mR 43) O j n0 Q (pc + 3) L S n = kI O j n0 Q (pc + 3) L S n := kR_I (Or.inr (Or.inl rfl))
  rw [← e]; exact J_callV (As := [v1]) ce_103 (by rw [hm]) rfl rfl (by decide +kernel) rfl rfl hd
theorem ce_104 : (3, 76, 0, 91, 987, 1) ∈ calL := by decide +kernel
theorem c_104 {O : pO} {j n0 : Nat} {Q : pQ} {pc : Nat} {L : pL} {S : List pv} {n : Nat} {M : pM} {b : Nat} {v1 : pv} (hm : mO j = 3) (hd : decode (mB j) pc = .ok (.invokevirtual 76, 3)) : J O j n0 Q pc L (v1 :: vr (b + 1) :: S) n M = (ob n b = 7 ∧ stk S ≤ 8 ∧ mo O 91 [vr (b + 1), v1] n M (kI O j n0 Q (pc + 3) L S n)) := by
  have e : kR (mR 91) O j n0 Q (pc + 3) L S n = kI O j n0 Q (pc + 3) L S n := kR_I (Or.inr (Or.inl rfl))
  rw [← e]; exact J_callV (As := [v1]) ce_104 (by rw [hm]) rfl rfl (by decide +kernel) rfl rfl hd
theorem ce_105 : (3, 45, 0, 93, 988, 1) ∈ calL := by decide +kernel
theorem c_105 {O : pO} {j n0 : Nat} {Q : pQ} {pc : Nat} {L : pL} {S : List pv} {n : Nat} {M : pM} {b : Nat} {v1 : pv} (hm : mO j = 3) (hd : decode (mB j) pc = .ok (.invokevirtual 45, 3)) : J O j n0 Q pc L (v1 :: vr (b + 1) :: S) n M = (ob n b = 7 ∧ stk S ≤ 8 ∧ mo O 93 [vr (b + 1), v1] n M (kI O j n0 Q (pc + 3) L S n)) := by
  have e : kR (mR 93) O j n0 Q (pc + 3) L S n = kI O j n0 Q (pc + 3) L S n := kR_I (Or.inr (Or.inl rfl))
  rw [← e]; exact J_callV (As := [v1]) ce_105 (by rw [hm]) rfl rfl (by decide +kernel) rfl rfl hd
theorem ce_106 : (3, 88, 0, 44, 989, 0) ∈ calL := by decide +kernel
theorem c_106 {O : pO} {j n0 : Nat} {Q : pQ} {pc : Nat} {L : pL} {S : List pv} {n : Nat} {M : pM} {b : Nat} (hm : mO j = 3) (hd : decode (mB j) pc = .ok (.invokevirtual 88, 3)) : J O j n0 Q pc L (vr (b + 1) :: S) n M = (ob n b = 3 ∧ stk S ≤ 8 ∧ mo O 44 [vr (b + 1)] n M (kI O j n0 Q (pc + 3) L S n)) := by
  have e : kR (mR 44) O j n0 Q (pc + 3) L S n = kI O j n0 Q (pc + 3) L S n := kR_I (Or.inl rfl)
  rw [← e]; exact J_callV (As := []) ce_106 (by rw [hm]) rfl rfl (by decide +kernel) rfl rfl hd
theorem ce_107 : (13, 32, 0, 133, 993, 0) ∈ calL := by decide +kernel
theorem c_107 {O : pO} {j n0 : Nat} {Q : pQ} {pc : Nat} {L : pL} {S : List pv} {n : Nat} {M : pM} {b : Nat} {v1 : pv} (hm : mO j = 13) (hd : decode (mB j) pc = .ok (.invokevirtual 32, 3)) : J O j n0 Q pc L (v1 :: vr (b + 1) :: S) n M = (ob n b = 11 ∧ stk S ≤ 8 ∧ mo O 133 [vr (b + 1), v1] n M (kI O j n0 Q (pc + 3) L S n)) := by
  have e : kR (mR 133) O j n0 Q (pc + 3) L S n = kI O j n0 Q (pc + 3) L S n := kR_I (Or.inl rfl)
  rw [← e]; exact J_callV (As := [v1]) ce_107 (by rw [hm]) rfl rfl (by decide +kernel) rfl rfl hd
theorem ce_108 : (13, 36, 0, 134, 997, 0) ∈ calL := by decide +kernel
theorem c_108 {O : pO} {j n0 : Nat} {Q : pQ} {pc : Nat} {L : pL} {S : List pv} {n : Nat} {M : pM} {b : Nat} {v1 v2 : pv} (hm : mO j = 13) (hd : decode (mB j) pc = .ok (.invokevirtual 36, 3)) : J O j n0 Q pc L (v2 :: v1 :: vr (b + 1) :: S) n M = (ob n b = 11 ∧ stk S ≤ 8 ∧ mo O 134 [vr (b + 1), v1, v2] n M (kI O j n0 Q (pc + 3) L S n)) := by
  have e : kR (mR 134) O j n0 Q (pc + 3) L S n = kI O j n0 Q (pc + 3) L S n := kR_I (Or.inl rfl)
  rw [← e]; exact J_callV (As := [v1, v2]) ce_108 (by rw [hm]) rfl rfl (by decide +kernel) rfl rfl hd
theorem ce_109 : (11, 137, 1, 167, 1001, 0) ∈ calL := by decide +kernel
theorem c_109 {O : pO} {j n0 : Nat} {Q : pQ} {pc : Nat} {L : pL} {S : List pv} {n : Nat} {M : pM} {v1 : pv} (hm : mO j = 11) (hd : decode (mB j) pc = .ok (.invokestatic 137, 3)) : J O j n0 Q pc L (v1 :: S) n M = (stk S ≤ 8 ∧ mo O 167 [v1] n M (kI O j n0 Q (pc + 3) L S n)) := by
  have e : kR (mR 167) O j n0 Q (pc + 3) L S n = kI O j n0 Q (pc + 3) L S n := kR_I (Or.inr (Or.inl rfl))
  rw [← e]; exact J_callS (As := [v1]) ce_109 (by rw [hm]) rfl rfl (by decide +kernel) rfl rfl hd
theorem ce_110 : (11, 140, 1, 168, 1004, 0) ∈ calL := by decide +kernel
theorem c_110 {O : pO} {j n0 : Nat} {Q : pQ} {pc : Nat} {L : pL} {S : List pv} {n : Nat} {M : pM} {v1 : pv} (hm : mO j = 11) (hd : decode (mB j) pc = .ok (.invokestatic 140, 3)) : J O j n0 Q pc L (v1 :: S) n M = (stk S ≤ 8 ∧ mo O 168 [v1] n M (kI O j n0 Q (pc + 3) L S n)) := by
  have e : kR (mR 168) O j n0 Q (pc + 3) L S n = kI O j n0 Q (pc + 3) L S n := kR_I (Or.inr (Or.inl rfl))
  rw [← e]; exact J_callS (As := [v1]) ce_110 (by rw [hm]) rfl rfl (by decide +kernel) rfl rfl hd
theorem ce_111 : (11, 143, 0, 52, 1007, 1) ∈ calL := by decide +kernel
theorem c_111 {O : pO} {j n0 : Nat} {Q : pQ} {pc : Nat} {L : pL} {S : List pv} {n : Nat} {M : pM} {b : Nat} {v1 v2 : pv} (hm : mO j = 11) (hd : decode (mB j) pc = .ok (.invokevirtual 143, 3)) : J O j n0 Q pc L (v2 :: v1 :: vr (b + 1) :: S) n M = (ob n b = 4 ∧ stk S ≤ 8 ∧ mo O 52 [vr (b + 1), v1, v2] n M (kI O j n0 Q (pc + 3) L S n)) := by
  have e : kR (mR 52) O j n0 Q (pc + 3) L S n = kI O j n0 Q (pc + 3) L S n := kR_I (Or.inl rfl)
  rw [← e]; exact J_callV (As := [v1, v2]) ce_111 (by rw [hm]) rfl rfl (by decide +kernel) rfl rfl hd
theorem ce_112 : (13, 41, 0, 135, 1011, 0) ∈ calL := by decide +kernel
theorem c_112 {O : pO} {j n0 : Nat} {Q : pQ} {pc : Nat} {L : pL} {S : List pv} {n : Nat} {M : pM} {b : Nat} {v1 : pv} (hm : mO j = 13) (hd : decode (mB j) pc = .ok (.invokevirtual 41, 3)) : J O j n0 Q pc L (v1 :: vr (b + 1) :: S) n M = (ob n b = 11 ∧ stk S ≤ 8 ∧ mo O 135 [vr (b + 1), v1] n M (kI O j n0 Q (pc + 3) L S n)) := by
  have e : kR (mR 135) O j n0 Q (pc + 3) L S n = kI O j n0 Q (pc + 3) L S n := kR_I (Or.inl rfl)
  rw [← e]; exact J_callV (As := [v1]) ce_112 (by rw [hm]) rfl rfl (by decide +kernel) rfl rfl hd
theorem ce_113 : (11, 147, 0, 53, 1015, 1) ∈ calL := by decide +kernel
theorem c_113 {O : pO} {j n0 : Nat} {Q : pQ} {pc : Nat} {L : pL} {S : List pv} {n : Nat} {M : pM} {b : Nat} {v1 : pv} (hm : mO j = 11) (hd : decode (mB j) pc = .ok (.invokevirtual 147, 3)) : J O j n0 Q pc L (v1 :: vr (b + 1) :: S) n M = (ob n b = 4 ∧ stk S ≤ 8 ∧ mo O 53 [vr (b + 1), v1] n M (kI O j n0 Q (pc + 3) L S n)) := by
  have e : kR (mR 53) O j n0 Q (pc + 3) L S n = kI O j n0 Q (pc + 3) L S n := kR_I (Or.inl rfl)
  rw [← e]; exact J_callV (As := [v1]) ce_113 (by rw [hm]) rfl rfl (by decide +kernel) rfl rfl hd
theorem ce_114 : (13, 45, 0, 136, 1019, 0) ∈ calL := by decide +kernel
theorem c_114 {O : pO} {j n0 : Nat} {Q : pQ} {pc : Nat} {L : pL} {S : List pv} {n : Nat} {M : pM} {b : Nat} {v1 : pv} (hm : mO j = 13) (hd : decode (mB j) pc = .ok (.invokevirtual 45, 3)) : J O j n0 Q pc L (v1 :: vr (b + 1) :: S) n M = (ob n b = 11 ∧ stk S ≤ 8 ∧ mo O 136 [vr (b + 1), v1] n M (kI O j n0 Q (pc + 3) L S n)) := by
  have e : kR (mR 136) O j n0 Q (pc + 3) L S n = kI O j n0 Q (pc + 3) L S n := kR_I (Or.inl rfl)
  rw [← e]; exact J_callV (As := [v1]) ce_114 (by rw [hm]) rfl rfl (by decide +kernel) rfl rfl hd
theorem ce_115 : (11, 151, 0, 54, 1023, 1) ∈ calL := by decide +kernel
theorem c_115 {O : pO} {j n0 : Nat} {Q : pQ} {pc : Nat} {L : pL} {S : List pv} {n : Nat} {M : pM} {b : Nat} {v1 : pv} (hm : mO j = 11) (hd : decode (mB j) pc = .ok (.invokevirtual 151, 3)) : J O j n0 Q pc L (v1 :: vr (b + 1) :: S) n M = (ob n b = 4 ∧ stk S ≤ 8 ∧ mo O 54 [vr (b + 1), v1] n M (kI O j n0 Q (pc + 3) L S n)) := by
  have e : kR (mR 54) O j n0 Q (pc + 3) L S n = kI O j n0 Q (pc + 3) L S n := kR_I (Or.inl rfl)
  rw [← e]; exact J_callV (As := [v1]) ce_115 (by rw [hm]) rfl rfl (by decide +kernel) rfl rfl hd
theorem ce_116 : (13, 49, 0, 137, 1027, 0) ∈ calL := by decide +kernel
theorem c_116 {O : pO} {j n0 : Nat} {Q : pQ} {pc : Nat} {L : pL} {S : List pv} {n : Nat} {M : pM} {b : Nat} {v1 v2 v3 : pv} (hm : mO j = 13) (hd : decode (mB j) pc = .ok (.invokevirtual 49, 3)) : J O j n0 Q pc L (v3 :: v2 :: v1 :: vr (b + 1) :: S) n M = (ob n b = 11 ∧ stk S ≤ 8 ∧ mo O 137 [vr (b + 1), v1, v2, v3] n M (kI O j n0 Q (pc + 3) L S n)) := by
  have e : kR (mR 137) O j n0 Q (pc + 3) L S n = kI O j n0 Q (pc + 3) L S n := kR_I (Or.inl rfl)
  rw [← e]; exact J_callV (As := [v1, v2, v3]) ce_116 (by rw [hm]) rfl rfl (by decide +kernel) rfl rfl hd
theorem ce_117 : (11, 154, 1, 170, 1031, 0) ∈ calL := by decide +kernel
theorem c_117 {O : pO} {j n0 : Nat} {Q : pQ} {pc : Nat} {L : pL} {S : List pv} {n : Nat} {M : pM} {v1 v2 v3 : pv} (hm : mO j = 11) (hd : decode (mB j) pc = .ok (.invokestatic 154, 3)) : J O j n0 Q pc L (v3 :: v2 :: v1 :: S) n M = (stk S ≤ 8 ∧ mo O 170 [v1, v2, v3] n M (kI O j n0 Q (pc + 3) L S n)) := by
  have e : kR (mR 170) O j n0 Q (pc + 3) L S n = kI O j n0 Q (pc + 3) L S n := kR_I (Or.inr (Or.inl rfl))
  rw [← e]; exact J_callS (As := [v1, v2, v3]) ce_117 (by rw [hm]) rfl rfl (by decide +kernel) rfl rfl hd
theorem ce_118 : (11, 325, 1, 169, 1034, 0) ∈ calL := by decide +kernel
theorem c_118 {O : pO} {j n0 : Nat} {Q : pQ} {pc : Nat} {L : pL} {S : List pv} {n : Nat} {M : pM} {v1 : pv} (hm : mO j = 11) (hd : decode (mB j) pc = .ok (.invokestatic 325, 3)) : J O j n0 Q pc L (v1 :: S) n M = (stk S ≤ 8 ∧ mo O 169 [v1] n M (kI O j n0 Q (pc + 3) L S n)) := by
  have e : kR (mR 169) O j n0 Q (pc + 3) L S n = kI O j n0 Q (pc + 3) L S n := kR_I (Or.inr (Or.inl rfl))
  rw [← e]; exact J_callS (As := [v1]) ce_118 (by rw [hm]) rfl rfl (by decide +kernel) rfl rfl hd
theorem ce_119 : (11, 158, 0, 58, 1037, 1) ∈ calL := by decide +kernel
theorem c_119 {O : pO} {j n0 : Nat} {Q : pQ} {pc : Nat} {L : pL} {S : List pv} {n : Nat} {M : pM} {b : Nat} {v1 v2 : pv} (hm : mO j = 11) (hd : decode (mB j) pc = .ok (.invokevirtual 158, 3)) : J O j n0 Q pc L (v2 :: v1 :: vr (b + 1) :: S) n M = (ob n b = 4 ∧ stk S ≤ 8 ∧ mo O 58 [vr (b + 1), v1, v2] n M (kI O j n0 Q (pc + 3) L S n)) := by
  have e : kR (mR 58) O j n0 Q (pc + 3) L S n = kI O j n0 Q (pc + 3) L S n := kR_I (Or.inl rfl)
  rw [← e]; exact J_callV (As := [v1, v2]) ce_119 (by rw [hm]) rfl rfl (by decide +kernel) rfl rfl hd
theorem ce_120 : (4, 70, 1, 299, 1041, 0) ∈ calL := by decide +kernel
theorem c_120 {O : pO} {j n0 : Nat} {Q : pQ} {pc : Nat} {L : pL} {S : List pv} {n : Nat} {M : pM} {a b : Int} (hm : mO j = 4) (hd : decode (mB j) pc = .ok (.invokestatic 70, 3)) : J O j n0 Q pc L (vi b :: vi a :: S) n M = (stk S ≤ 8 ∧ J O j n0 Q (pc + 3) L (vi (if b < a then b else a) :: S) n M) := J_min ce_120 (by rw [hm]) rfl (by decide +kernel) hd
theorem ce_121 : (13, 54, 0, 138, 1042, 0) ∈ calL := by decide +kernel
theorem c_121 {O : pO} {j n0 : Nat} {Q : pQ} {pc : Nat} {L : pL} {S : List pv} {n : Nat} {M : pM} {b : Nat} {v1 v2 v3 v4 v5 : pv} (hm : mO j = 13) (hd : decode (mB j) pc = .ok (.invokevirtual 54, 3)) : J O j n0 Q pc L (v5 :: v4 :: v3 :: v2 :: v1 :: vr (b + 1) :: S) n M = (ob n b = 11 ∧ stk S ≤ 8 ∧ mo O 138 [vr (b + 1), v1, v2, v3, v4, v5] n M (kI O j n0 Q (pc + 3) L S n)) := by
  have e : kR (mR 138) O j n0 Q (pc + 3) L S n = kI O j n0 Q (pc + 3) L S n := kR_I (Or.inl rfl)
  rw [← e]; exact J_callV (As := [v1, v2, v3, v4, v5]) ce_121 (by rw [hm]) rfl rfl (by decide +kernel) rfl rfl hd
theorem ce_122 : (11, 161, 0, 49, 1046, 1) ∈ calL := by decide +kernel
theorem c_122 {O : pO} {j n0 : Nat} {Q : pQ} {pc : Nat} {L : pL} {S : List pv} {n : Nat} {M : pM} {b : Nat} {v1 : pv} (hm : mO j = 11) (hd : decode (mB j) pc = .ok (.invokevirtual 161, 3)) : J O j n0 Q pc L (v1 :: vr (b + 1) :: S) n M = (ob n b = 4 ∧ stk S ≤ 8 ∧ mo O 49 [vr (b + 1), v1] n M (kI O j n0 Q (pc + 3) L S n)) := by
  have e : kR (mR 49) O j n0 Q (pc + 3) L S n = kI O j n0 Q (pc + 3) L S n := kR_I (Or.inr (Or.inl rfl))
  rw [← e]; exact J_callV (As := [v1]) ce_122 (by rw [hm]) rfl rfl (by decide +kernel) rfl rfl hd
theorem ce_123 : (11, 164, 0, 61, 1050, 1) ∈ calL := by decide +kernel
theorem c_123 {O : pO} {j n0 : Nat} {Q : pQ} {pc : Nat} {L : pL} {S : List pv} {n : Nat} {M : pM} {b : Nat} {v1 v2 v3 v4 v5 : pv} (hm : mO j = 11) (hd : decode (mB j) pc = .ok (.invokevirtual 164, 3)) : J O j n0 Q pc L (v5 :: v4 :: v3 :: v2 :: v1 :: vr (b + 1) :: S) n M = (ob n b = 4 ∧ stk S ≤ 8 ∧ mo O 61 [vr (b + 1), v1, v2, v3, v4, v5] n M (kI O j n0 Q (pc + 3) L S n)) := by
  have e : kR (mR 61) O j n0 Q (pc + 3) L S n = kI O j n0 Q (pc + 3) L S n := kR_I (Or.inl rfl)
  rw [← e]; exact J_callV (As := [v1, v2, v3, v4, v5]) ce_123 (by rw [hm]) rfl rfl (by decide +kernel) rfl rfl hd
theorem ce_124 : (4, 92, 0, 59, 1054, 0) ∈ calL := by decide +kernel
theorem c_124 {O : pO} {j n0 : Nat} {Q : pQ} {pc : Nat} {L : pL} {S : List pv} {n : Nat} {M : pM} {b : Nat} {v1 v2 v3 : pv} (hm : mO j = 4) (hd : decode (mB j) pc = .ok (.invokevirtual 92, 3)) : J O j n0 Q pc L (v3 :: v2 :: v1 :: vr (b + 1) :: S) n M = (ob n b = 4 ∧ stk S ≤ 8 ∧ mo O 59 [vr (b + 1), v1, v2, v3] n M (kI O j n0 Q (pc + 3) L S n)) := by
  have e : kR (mR 59) O j n0 Q (pc + 3) L S n = kI O j n0 Q (pc + 3) L S n := kR_I (Or.inl rfl)
  rw [← e]; exact J_callV (As := [v1, v2, v3]) ce_124 (by rw [hm]) rfl rfl (by decide +kernel) rfl rfl hd
theorem ce_125 : (4, 76, 0, 52, 1058, 0) ∈ calL := by decide +kernel
theorem c_125 {O : pO} {j n0 : Nat} {Q : pQ} {pc : Nat} {L : pL} {S : List pv} {n : Nat} {M : pM} {b : Nat} {v1 v2 : pv} (hm : mO j = 4) (hd : decode (mB j) pc = .ok (.invokevirtual 76, 3)) : J O j n0 Q pc L (v2 :: v1 :: vr (b + 1) :: S) n M = (ob n b = 4 ∧ stk S ≤ 8 ∧ mo O 52 [vr (b + 1), v1, v2] n M (kI O j n0 Q (pc + 3) L S n)) := by
  have e : kR (mR 52) O j n0 Q (pc + 3) L S n = kI O j n0 Q (pc + 3) L S n := kR_I (Or.inl rfl)
  rw [← e]; exact J_callV (As := [v1, v2]) ce_125 (by rw [hm]) rfl rfl (by decide +kernel) rfl rfl hd
theorem ce_126 : (4, 96, 0, 54, 1059, 0) ∈ calL := by decide +kernel
theorem c_126 {O : pO} {j n0 : Nat} {Q : pQ} {pc : Nat} {L : pL} {S : List pv} {n : Nat} {M : pM} {b : Nat} {v1 : pv} (hm : mO j = 4) (hd : decode (mB j) pc = .ok (.invokevirtual 96, 3)) : J O j n0 Q pc L (v1 :: vr (b + 1) :: S) n M = (ob n b = 4 ∧ stk S ≤ 8 ∧ mo O 54 [vr (b + 1), v1] n M (kI O j n0 Q (pc + 3) L S n)) := by
  have e : kR (mR 54) O j n0 Q (pc + 3) L S n = kI O j n0 Q (pc + 3) L S n := kR_I (Or.inl rfl)
  rw [← e]; exact J_callV (As := [v1]) ce_126 (by rw [hm]) rfl rfl (by decide +kernel) rfl rfl hd
theorem ce_127 : (4, 99, 1, 62, 1060, 0) ∈ calL := by decide +kernel
theorem c_127 {O : pO} {j n0 : Nat} {Q : pQ} {pc : Nat} {L : pL} {S : List pv} {n : Nat} {M : pM} {v1 v2 v3 : pv} (hm : mO j = 4) (hd : decode (mB j) pc = .ok (.invokestatic 99, 3)) : J O j n0 Q pc L (v3 :: v2 :: v1 :: S) n M = (stk S ≤ 8 ∧ mo O 62 [v1, v2, v3] n M (kI O j n0 Q (pc + 3) L S n)) := by
  have e : kR (mR 62) O j n0 Q (pc + 3) L S n = kI O j n0 Q (pc + 3) L S n := kR_I (Or.inl rfl)
  rw [← e]; exact J_callS (As := [v1, v2, v3]) ce_127 (by rw [hm]) rfl rfl (by decide +kernel) rfl rfl hd
theorem ce_128 : (4, 89, 1, 298, 1063, 0) ∈ calL := by decide +kernel
theorem c_128 {O : pO} {j n0 : Nat} {Q : pQ} {pc : Nat} {L : pL} {S : List pv} {n : Nat} {M : pM} {a b : Int} (hm : mO j = 4) (hd : decode (mB j) pc = .ok (.invokestatic 89, 3)) : J O j n0 Q pc L (vi b :: vi a :: S) n M = (stk S ≤ 8 ∧ J O j n0 Q (pc + 3) L (vi (if a < b then b else a) :: S) n M) := J_max ce_128 (by rw [hm]) rfl (by decide +kernel) hd
theorem ce_129 : (4, 102, 1, 171, 1064, 1) ∈ calL := by decide +kernel
theorem c_129 {O : pO} {j n0 : Nat} {Q : pQ} {pc : Nat} {L : pL} {S : List pv} {n : Nat} {M : pM} {v1 v2 : pv} (hm : mO j = 4) (hd : decode (mB j) pc = .ok (.invokestatic 102, 3)) : J O j n0 Q pc L (v2 :: v1 :: S) n M = (stk S ≤ 8 ∧ mo O 171 [v1, v2] n M (kI O j n0 Q (pc + 3) L S n)) := by
  have e : kR (mR 171) O j n0 Q (pc + 3) L S n = kI O j n0 Q (pc + 3) L S n := kR_I (Or.inl rfl)
  rw [← e]; exact J_callS (As := [v1, v2]) ce_129 (by rw [hm]) rfl rfl (by decide +kernel) rfl rfl hd
theorem ce_130 : (4, 105, 0, 60, 1065, 0) ∈ calL := by decide +kernel
theorem c_130 {O : pO} {j n0 : Nat} {Q : pQ} {pc : Nat} {L : pL} {S : List pv} {n : Nat} {M : pM} {b : Nat} {v1 v2 v3 v4 : pv} (hm : mO j = 4) (hd : decode (mB j) pc = .ok (.invokevirtual 105, 3)) : J O j n0 Q pc L (v4 :: v3 :: v2 :: v1 :: vr (b + 1) :: S) n M = (ob n b = 4 ∧ stk S ≤ 8 ∧ mo O 60 [vr (b + 1), v1, v2, v3, v4] n M (kI O j n0 Q (pc + 3) L S n)) := by
  have e : kR (mR 60) O j n0 Q (pc + 3) L S n = kI O j n0 Q (pc + 3) L S n := kR_I (Or.inl rfl)
  rw [← e]; exact J_callV (As := [v1, v2, v3, v4]) ce_130 (by rw [hm]) rfl rfl (by decide +kernel) rfl rfl hd
theorem ce_131 : (4, 79, 0, 53, 1069, 0) ∈ calL := by decide +kernel
theorem c_131 {O : pO} {j n0 : Nat} {Q : pQ} {pc : Nat} {L : pL} {S : List pv} {n : Nat} {M : pM} {b : Nat} {v1 : pv} (hm : mO j = 4) (hd : decode (mB j) pc = .ok (.invokevirtual 79, 3)) : J O j n0 Q pc L (v1 :: vr (b + 1) :: S) n M = (ob n b = 4 ∧ stk S ≤ 8 ∧ mo O 53 [vr (b + 1), v1] n M (kI O j n0 Q (pc + 3) L S n)) := by
  have e : kR (mR 53) O j n0 Q (pc + 3) L S n = kI O j n0 Q (pc + 3) L S n := kR_I (Or.inl rfl)
  rw [← e]; exact J_callV (As := [v1]) ce_131 (by rw [hm]) rfl rfl (by decide +kernel) rfl rfl hd
theorem ce_132 : (4, 109, 0, 58, 1072, 0) ∈ calL := by decide +kernel
theorem c_132 {O : pO} {j n0 : Nat} {Q : pQ} {pc : Nat} {L : pL} {S : List pv} {n : Nat} {M : pM} {b : Nat} {v1 v2 : pv} (hm : mO j = 4) (hd : decode (mB j) pc = .ok (.invokevirtual 109, 3)) : J O j n0 Q pc L (v2 :: v1 :: vr (b + 1) :: S) n M = (ob n b = 4 ∧ stk S ≤ 8 ∧ mo O 58 [vr (b + 1), v1, v2] n M (kI O j n0 Q (pc + 3) L S n)) := by
  have e : kR (mR 58) O j n0 Q (pc + 3) L S n = kI O j n0 Q (pc + 3) L S n := kR_I (Or.inl rfl)
  rw [← e]; exact J_callV (As := [v1, v2]) ce_132 (by rw [hm]) rfl rfl (by decide +kernel) rfl rfl hd
theorem ce_133 : (13, 58, 0, 139, 1073, 0) ∈ calL := by decide +kernel
theorem c_133 {O : pO} {j n0 : Nat} {Q : pQ} {pc : Nat} {L : pL} {S : List pv} {n : Nat} {M : pM} {b : Nat} {v1 v2 v3 v4 : pv} (hm : mO j = 13) (hd : decode (mB j) pc = .ok (.invokevirtual 58, 3)) : J O j n0 Q pc L (v4 :: v3 :: v2 :: v1 :: vr (b + 1) :: S) n M = (ob n b = 11 ∧ stk S ≤ 8 ∧ mo O 139 [vr (b + 1), v1, v2, v3, v4] n M (kI O j n0 Q (pc + 3) L S n)) := by
  have e : kR (mR 139) O j n0 Q (pc + 3) L S n = kI O j n0 Q (pc + 3) L S n := kR_I (Or.inr (Or.inl rfl))
  rw [← e]; exact J_callV (As := [v1, v2, v3, v4]) ce_133 (by rw [hm]) rfl rfl (by decide +kernel) rfl rfl hd
theorem ce_134 : (11, 168, 0, 1, 1077, 1) ∈ calL := by decide +kernel
theorem c_134 {O : pO} {j n0 : Nat} {Q : pQ} {pc : Nat} {L : pL} {S : List pv} {n : Nat} {M : pM} {b : Nat} {v1 v2 v3 v4 : pv} (hm : mO j = 11) (hd : decode (mB j) pc = .ok (.invokevirtual 168, 3)) : J O j n0 Q pc L (v4 :: v3 :: v2 :: v1 :: vr (b + 1) :: S) n M = (ob n b = 0 ∧ stk S ≤ 8 ∧ mo O 1 [vr (b + 1), v1, v2, v3, v4] n M (kI O j n0 Q (pc + 3) L S n)) := by
  have e : kR (mR 1) O j n0 Q (pc + 3) L S n = kI O j n0 Q (pc + 3) L S n := kR_I (Or.inr (Or.inl rfl))
  rw [← e]; exact J_callV (As := [v1, v2, v3, v4]) ce_134 (by rw [hm]) rfl rfl (by decide +kernel) rfl rfl hd
theorem ce_135 : (0, 15, 1, 167, 1081, 1) ∈ calL := by decide +kernel
theorem c_135 {O : pO} {j n0 : Nat} {Q : pQ} {pc : Nat} {L : pL} {S : List pv} {n : Nat} {M : pM} {v1 : pv} (hm : mO j = 0) (hd : decode (mB j) pc = .ok (.invokestatic 15, 3)) : J O j n0 Q pc L (v1 :: S) n M = (stk S ≤ 8 ∧ mo O 167 [v1] n M (kI O j n0 Q (pc + 3) L S n)) := by
  have e : kR (mR 167) O j n0 Q (pc + 3) L S n = kI O j n0 Q (pc + 3) L S n := kR_I (Or.inr (Or.inl rfl))
  rw [← e]; exact J_callS (As := [v1]) ce_135 (by rw [hm]) rfl rfl (by decide +kernel) rfl rfl hd
theorem ce_136 : (0, 19, 1, 2, 1082, 0) ∈ calL := by decide +kernel
theorem c_136 {O : pO} {j n0 : Nat} {Q : pQ} {pc : Nat} {L : pL} {S : List pv} {n : Nat} {M : pM} {v1 v2 : pv} (hm : mO j = 0) (hd : decode (mB j) pc = .ok (.invokestatic 19, 3)) : J O j n0 Q pc L (v2 :: v1 :: S) n M = (stk S ≤ 8 ∧ mo O 2 [v1, v2] n M (kI O j n0 Q (pc + 3) L S n)) := by
  have e : kR (mR 2) O j n0 Q (pc + 3) L S n = kI O j n0 Q (pc + 3) L S n := kR_I (Or.inr (Or.inl rfl))
  rw [← e]; exact J_callS (As := [v1, v2]) ce_136 (by rw [hm]) rfl rfl (by decide +kernel) rfl rfl hd
theorem ce_137 : (0, 27, 0, 3, 1085, 0) ∈ calL := by decide +kernel
theorem c_137 {O : pO} {j n0 : Nat} {Q : pQ} {pc : Nat} {L : pL} {S : List pv} {n : Nat} {M : pM} {b : Nat} {v1 : pv} (hm : mO j = 0) (hd : decode (mB j) pc = .ok (.invokevirtual 27, 3)) : J O j n0 Q pc L (v1 :: vr (b + 1) :: S) n M = (ob n b = 0 ∧ stk S ≤ 8 ∧ mo O 3 [vr (b + 1), v1] n M (kV O j n0 Q (pc + 3) L S n)) := by
  have e : kR (mR 3) O j n0 Q (pc + 3) L S n = kV O j n0 Q (pc + 3) L S n := kR_V
  rw [← e]; exact J_callV (As := [v1]) ce_137 (by rw [hm]) rfl rfl (by decide +kernel) rfl rfl hd
theorem ce_138 : (13, 63, 0, 140, 1089, 0) ∈ calL := by decide +kernel
theorem c_138 {O : pO} {j n0 : Nat} {Q : pQ} {pc : Nat} {L : pL} {S : List pv} {n : Nat} {M : pM} {b : Nat} {v1 v2 v3 v4 v5 : pv} (hm : mO j = 13) (hd : decode (mB j) pc = .ok (.invokevirtual 63, 3)) : J O j n0 Q pc L (v5 :: v4 :: v3 :: v2 :: v1 :: vr (b + 1) :: S) n M = (ob n b = 11 ∧ stk S ≤ 8 ∧ mo O 140 [vr (b + 1), v1, v2, v3, v4, v5] n M (kI O j n0 Q (pc + 3) L S n)) := by
  have e : kR (mR 140) O j n0 Q (pc + 3) L S n = kI O j n0 Q (pc + 3) L S n := kR_I (Or.inl rfl)
  rw [← e]; exact J_callV (As := [v1, v2, v3, v4, v5]) ce_138 (by rw [hm]) rfl rfl (by decide +kernel) rfl rfl hd
theorem ce_139 : (11, 172, 0, 164, 1093, 0) ∈ calL := by decide +kernel
theorem c_139 {O : pO} {j n0 : Nat} {Q : pQ} {pc : Nat} {L : pL} {S : List pv} {n : Nat} {M : pM} {b : Nat} {v1 v2 v3 v4 v5 : pv} (hm : mO j = 11) (hd : decode (mB j) pc = .ok (.invokevirtual 172, 3)) : J O j n0 Q pc L (v5 :: v4 :: v3 :: v2 :: v1 :: vr (b + 1) :: S) n M = (ob n b = 11 ∧ stk S ≤ 8 ∧ mo O 164 [vr (b + 1), v1, v2, v3, v4, v5] n M (kI O j n0 Q (pc + 3) L S n)) := by
  have e : kR (mR 164) O j n0 Q (pc + 3) L S n = kI O j n0 Q (pc + 3) L S n := kR_I (Or.inr (Or.inl rfl))
  rw [← e]; exact J_callV (As := [v1, v2, v3, v4, v5]) ce_139 (by rw [hm]) rfl rfl (by decide +kernel) rfl rfl hd
theorem ce_140 : (11, 185, 0, 163, 1097, 0) ∈ calL := by decide +kernel
theorem c_140 {O : pO} {j n0 : Nat} {Q : pQ} {pc : Nat} {L : pL} {S : List pv} {n : Nat} {M : pM} {b : Nat} {v1 v2 v3 v4 : pv} (hm : mO j = 11) (hd : decode (mB j) pc = .ok (.invokevirtual 185, 3)) : J O j n0 Q pc L (v4 :: v3 :: v2 :: v1 :: vr (b + 1) :: S) n M = (ob n b = 11 ∧ stk S ≤ 8 ∧ mo O 163 [vr (b + 1), v1, v2, v3, v4] n M (kI O j n0 Q (pc + 3) L S n)) := by
  have e : kR (mR 163) O j n0 Q (pc + 3) L S n = kI O j n0 Q (pc + 3) L S n := kR_I (Or.inr (Or.inl rfl))
  rw [← e]; exact J_callV (As := [v1, v2, v3, v4]) ce_140 (by rw [hm]) rfl rfl (by decide +kernel) rfl rfl hd
theorem ce_141 : (11, 328, 0, 9, 1101, 1) ∈ calL := by decide +kernel
theorem c_141 {O : pO} {j n0 : Nat} {Q : pQ} {pc : Nat} {L : pL} {S : List pv} {n : Nat} {M : pM} {b : Nat} {v1 v2 v3 v4 v5 : pv} (hm : mO j = 11) (hd : decode (mB j) pc = .ok (.invokevirtual 328, 3)) : J O j n0 Q pc L (v5 :: v4 :: v3 :: v2 :: v1 :: vr (b + 1) :: S) n M = (ob n b = 1 ∧ stk S ≤ 8 ∧ mo O 9 [vr (b + 1), v1, v2, v3, v4, v5] n M (kI O j n0 Q (pc + 3) L S n)) := by
  have e : kR (mR 9) O j n0 Q (pc + 3) L S n = kI O j n0 Q (pc + 3) L S n := kR_I (Or.inr (Or.inl rfl))
  rw [← e]; exact J_callV (As := [v1, v2, v3, v4, v5]) ce_141 (by rw [hm]) rfl rfl (by decide +kernel) rfl rfl hd
theorem ce_142 : (1, 63, 0, 10, 1105, 0) ∈ calL := by decide +kernel
theorem c_142 {O : pO} {j n0 : Nat} {Q : pQ} {pc : Nat} {L : pL} {S : List pv} {n : Nat} {M : pM} {b : Nat} {v1 v2 v3 v4 v5 : pv} (hm : mO j = 1) (hd : decode (mB j) pc = .ok (.invokevirtual 63, 3)) : J O j n0 Q pc L (v5 :: v4 :: v3 :: v2 :: v1 :: vr (b + 1) :: S) n M = (ob n b = 1 ∧ stk S ≤ 8 ∧ mo O 10 [vr (b + 1), v1, v2, v3, v4, v5] n M (kV O j n0 Q (pc + 3) L S n)) := by
  have e : kR (mR 10) O j n0 Q (pc + 3) L S n = kV O j n0 Q (pc + 3) L S n := kR_V
  rw [← e]; exact J_callV (As := [v1, v2, v3, v4, v5]) ce_142 (by rw [hm]) rfl rfl (by decide +kernel) rfl rfl hd
theorem ce_143 : (11, 331, 0, 11, 1109, 1) ∈ calL := by decide +kernel
theorem c_143 {O : pO} {j n0 : Nat} {Q : pQ} {pc : Nat} {L : pL} {S : List pv} {n : Nat} {M : pM} {b : Nat} {v1 v2 : pv} (hm : mO j = 11) (hd : decode (mB j) pc = .ok (.invokevirtual 331, 3)) : J O j n0 Q pc L (v2 :: v1 :: vr (b + 1) :: S) n M = (ob n b = 1 ∧ stk S ≤ 8 ∧ mo O 11 [vr (b + 1), v1, v2] n M (kV O j n0 Q (pc + 3) L S n)) := by
  have e : kR (mR 11) O j n0 Q (pc + 3) L S n = kV O j n0 Q (pc + 3) L S n := kR_V
  rw [← e]; exact J_callV (As := [v1, v2]) ce_143 (by rw [hm]) rfl rfl (by decide +kernel) rfl rfl hd
theorem ce_144 : (1, 67, 0, 13, 1113, 0) ∈ calL := by decide +kernel
theorem c_144 {O : pO} {j n0 : Nat} {Q : pQ} {pc : Nat} {L : pL} {S : List pv} {n : Nat} {M : pM} {b : Nat} {v1 v2 : pv} (hm : mO j = 1) (hd : decode (mB j) pc = .ok (.invokevirtual 67, 3)) : J O j n0 Q pc L (v2 :: v1 :: vr (b + 1) :: S) n M = (ob n b = 1 ∧ stk S ≤ 8 ∧ mo O 13 [vr (b + 1), v1, v2] n M (kV O j n0 Q (pc + 3) L S n)) := by
  have e : kR (mR 13) O j n0 Q (pc + 3) L S n = kV O j n0 Q (pc + 3) L S n := kR_V
  rw [← e]; exact J_callV (As := [v1, v2]) ce_144 (by rw [hm]) rfl rfl (by decide +kernel) rfl rfl hd
theorem ce_145 : (1, 104, 1, 321, 1117, 0) ∈ calL := by decide +kernel
theorem c_145 {O : pO} {j n0 : Nat} {Q : pQ} {pc : Nat} {L : pL} {S : List pv} {n : Nat} {M : pM} {v1 v2 : pv} (hm : mO j = 1) (hd : decode (mB j) pc = .ok (.invokestatic 104, 3)) : J O j n0 Q pc L (v2 :: v1 :: S) n M = (stk S ≤ 8 ∧ mo O 321 [v1, v2] n M (kV O j n0 Q (pc + 3) L S n)) := by
  have e : kR (mR 321) O j n0 Q (pc + 3) L S n = kV O j n0 Q (pc + 3) L S n := kR_V
  rw [← e]; exact J_callS (As := [v1, v2]) ce_145 (by rw [hm]) rfl rfl (by decide +kernel) rfl rfl hd
theorem ce_146 : (1, 110, 0, 6, 1120, 1) ∈ calL := by decide +kernel
theorem c_146 {O : pO} {j n0 : Nat} {Q : pQ} {pc : Nat} {L : pL} {S : List pv} {n : Nat} {M : pM} {b : Nat} {v1 v2 : pv} (hm : mO j = 1) (hd : decode (mB j) pc = .ok (.invokevirtual 110, 3)) : J O j n0 Q pc L (v2 :: v1 :: vr (b + 1) :: S) n M = (ob n b = 0 ∧ stk S ≤ 8 ∧ mo O 6 [vr (b + 1), v1, v2] n M (kI O j n0 Q (pc + 3) L S n)) := by
  have e : kR (mR 6) O j n0 Q (pc + 3) L S n = kI O j n0 Q (pc + 3) L S n := kR_I (Or.inl rfl)
  rw [← e]; exact J_callV (As := [v1, v2]) ce_146 (by rw [hm]) rfl rfl (by decide +kernel) rfl rfl hd
theorem ce_147 : (1, 113, 1, 14, 1124, 0) ∈ calL := by decide +kernel
theorem c_147 {O : pO} {j n0 : Nat} {Q : pQ} {pc : Nat} {L : pL} {S : List pv} {n : Nat} {M : pM} {v1 v2 v3 : pv} (hm : mO j = 1) (hd : decode (mB j) pc = .ok (.invokestatic 113, 3)) : J O j n0 Q pc L (v3 :: v2 :: v1 :: S) n M = (stk S ≤ 8 ∧ mo O 14 [v1, v2, v3] n M (kI O j n0 Q (pc + 3) L S n)) := by
  have e : kR (mR 14) O j n0 Q (pc + 3) L S n = kI O j n0 Q (pc + 3) L S n := kR_I (Or.inl rfl)
  rw [← e]; exact J_callS (As := [v1, v2, v3]) ce_147 (by rw [hm]) rfl rfl (by decide +kernel) rfl rfl hd
theorem ce_148 : (1, 77, 0, 20, 1127, 0) ∈ calL := by decide +kernel
theorem c_148 {O : pO} {j n0 : Nat} {Q : pQ} {pc : Nat} {L : pL} {S : List pv} {n : Nat} {M : pM} {b : Nat} {v1 v2 : pv} (hm : mO j = 1) (hd : decode (mB j) pc = .ok (.invokevirtual 77, 3)) : J O j n0 Q pc L (v2 :: v1 :: vr (b + 1) :: S) n M = (ob n b = 1 ∧ stk S ≤ 8 ∧ mo O 20 [vr (b + 1), v1, v2] n M (kV O j n0 Q (pc + 3) L S n)) := by
  have e : kR (mR 20) O j n0 Q (pc + 3) L S n = kV O j n0 Q (pc + 3) L S n := kR_V
  rw [← e]; exact J_callV (As := [v1, v2]) ce_148 (by rw [hm]) rfl rfl (by decide +kernel) rfl rfl hd
theorem ce_149 : (1, 153, 0, 19, 1131, 0) ∈ calL := by decide +kernel
theorem c_149 {O : pO} {j n0 : Nat} {Q : pQ} {pc : Nat} {L : pL} {S : List pv} {n : Nat} {M : pM} {b : Nat} {v1 : pv} (hm : mO j = 1) (hd : decode (mB j) pc = .ok (.invokevirtual 153, 3)) : J O j n0 Q pc L (v1 :: vr (b + 1) :: S) n M = (ob n b = 1 ∧ stk S ≤ 8 ∧ mo O 19 [vr (b + 1), v1] n M (kV O j n0 Q (pc + 3) L S n)) := by
  have e : kR (mR 19) O j n0 Q (pc + 3) L S n = kV O j n0 Q (pc + 3) L S n := kR_V
  rw [← e]; exact J_callV (As := [v1]) ce_149 (by rw [hm]) rfl rfl (by decide +kernel) rfl rfl hd
theorem ce_150 : (1, 134, 1, 299, 1135, 0) ∈ calL := by decide +kernel
theorem c_150 {O : pO} {j n0 : Nat} {Q : pQ} {pc : Nat} {L : pL} {S : List pv} {n : Nat} {M : pM} {a b : Int} (hm : mO j = 1) (hd : decode (mB j) pc = .ok (.invokestatic 134, 3)) : J O j n0 Q pc L (vi b :: vi a :: S) n M = (stk S ≤ 8 ∧ J O j n0 Q (pc + 3) L (vi (if b < a then b else a) :: S) n M) := J_min ce_150 (by rw [hm]) rfl (by decide +kernel) hd
theorem ce_151 : (1, 142, 0, 54, 1136, 1) ∈ calL := by decide +kernel
theorem c_151 {O : pO} {j n0 : Nat} {Q : pQ} {pc : Nat} {L : pL} {S : List pv} {n : Nat} {M : pM} {b : Nat} {v1 : pv} (hm : mO j = 1) (hd : decode (mB j) pc = .ok (.invokevirtual 142, 3)) : J O j n0 Q pc L (v1 :: vr (b + 1) :: S) n M = (ob n b = 4 ∧ stk S ≤ 8 ∧ mo O 54 [vr (b + 1), v1] n M (kI O j n0 Q (pc + 3) L S n)) := by
  have e : kR (mR 54) O j n0 Q (pc + 3) L S n = kI O j n0 Q (pc + 3) L S n := kR_I (Or.inl rfl)
  rw [← e]; exact J_callV (As := [v1]) ce_151 (by rw [hm]) rfl rfl (by decide +kernel) rfl rfl hd
theorem ce_152 : (1, 149, 0, 60, 1137, 1) ∈ calL := by decide +kernel
theorem c_152 {O : pO} {j n0 : Nat} {Q : pQ} {pc : Nat} {L : pL} {S : List pv} {n : Nat} {M : pM} {b : Nat} {v1 v2 v3 v4 : pv} (hm : mO j = 1) (hd : decode (mB j) pc = .ok (.invokevirtual 149, 3)) : J O j n0 Q pc L (v4 :: v3 :: v2 :: v1 :: vr (b + 1) :: S) n M = (ob n b = 4 ∧ stk S ≤ 8 ∧ mo O 60 [vr (b + 1), v1, v2, v3, v4] n M (kI O j n0 Q (pc + 3) L S n)) := by
  have e : kR (mR 60) O j n0 Q (pc + 3) L S n = kI O j n0 Q (pc + 3) L S n := kR_I (Or.inl rfl)
  rw [← e]; exact J_callV (As := [v1, v2, v3, v4]) ce_152 (by rw [hm]) rfl rfl (by decide +kernel) rfl rfl hd
theorem ce_153 : (1, 119, 0, 4, 1138, 1) ∈ calL := by decide +kernel
theorem c_153 {O : pO} {j n0 : Nat} {Q : pQ} {pc : Nat} {L : pL} {S : List pv} {n : Nat} {M : pM} {b : Nat} (hm : mO j = 1) (hd : decode (mB j) pc = .ok (.invokevirtual 119, 3)) : J O j n0 Q pc L (vr (b + 1) :: S) n M = (ob n b = 0 ∧ stk S ≤ 8 ∧ mo O 4 [vr (b + 1)] n M (kI O j n0 Q (pc + 3) L S n)) := by
  have e : kR (mR 4) O j n0 Q (pc + 3) L S n = kI O j n0 Q (pc + 3) L S n := kR_I (Or.inl rfl)
  rw [← e]; exact J_callV (As := []) ce_153 (by rw [hm]) rfl rfl (by decide +kernel) rfl rfl hd
theorem ce_154 : (0, 31, 1, 298, 1142, 0) ∈ calL := by decide +kernel
theorem c_154 {O : pO} {j n0 : Nat} {Q : pQ} {pc : Nat} {L : pL} {S : List pv} {n : Nat} {M : pM} {a b : Int} (hm : mO j = 0) (hd : decode (mB j) pc = .ok (.invokestatic 31, 3)) : J O j n0 Q pc L (vi b :: vi a :: S) n M = (stk S ≤ 8 ∧ J O j n0 Q (pc + 3) L (vi (if a < b then b else a) :: S) n M) := J_max ce_154 (by rw [hm]) rfl (by decide +kernel) hd
theorem ce_155 : (1, 157, 0, 58, 1143, 1) ∈ calL := by decide +kernel
theorem c_155 {O : pO} {j n0 : Nat} {Q : pQ} {pc : Nat} {L : pL} {S : List pv} {n : Nat} {M : pM} {b : Nat} {v1 v2 : pv} (hm : mO j = 1) (hd : decode (mB j) pc = .ok (.invokevirtual 157, 3)) : J O j n0 Q pc L (v2 :: v1 :: vr (b + 1) :: S) n M = (ob n b = 4 ∧ stk S ≤ 8 ∧ mo O 58 [vr (b + 1), v1, v2] n M (kI O j n0 Q (pc + 3) L S n)) := by
  have e : kR (mR 58) O j n0 Q (pc + 3) L S n = kI O j n0 Q (pc + 3) L S n := kR_I (Or.inl rfl)
  rw [← e]; exact J_callV (As := [v1, v2]) ce_155 (by rw [hm]) rfl rfl (by decide +kernel) rfl rfl hd
theorem ce_156 : (1, 126, 1, 15, 1144, 0) ∈ calL := by decide +kernel
theorem c_156 {O : pO} {j n0 : Nat} {Q : pQ} {pc : Nat} {L : pL} {S : List pv} {n : Nat} {M : pM} {v1 : pv} (hm : mO j = 1) (hd : decode (mB j) pc = .ok (.invokestatic 126, 3)) : J O j n0 Q pc L (v1 :: S) n M = (stk S ≤ 8 ∧ mo O 15 [v1] n M (kL O j n0 Q (pc + 3) L S n)) := by
  have e : kR (mR 15) O j n0 Q (pc + 3) L S n = kL O j n0 Q (pc + 3) L S n := kR_L
  rw [← e]; exact J_callS (As := [v1]) ce_156 (by rw [hm]) rfl rfl (by decide +kernel) rfl rfl hd
theorem ce_157 : (1, 160, 0, 21, 1148, 0) ∈ calL := by decide +kernel
theorem c_157 {O : pO} {j n0 : Nat} {Q : pQ} {pc : Nat} {L : pL} {S : List pv} {n : Nat} {M : pM} {b : Nat} {v1 v2 v3 v4 : pv} (hm : mO j = 1) (hd : decode (mB j) pc = .ok (.invokevirtual 160, 3)) : J O j n0 Q pc L (v4 :: v3 :: v2 :: v1 :: vr (b + 1) :: S) n M = (ob n b = 1 ∧ stk S ≤ 8 ∧ mo O 21 [vr (b + 1), v1, v2, v3, v4] n M (kV O j n0 Q (pc + 3) L S n)) := by
  have e : kR (mR 21) O j n0 Q (pc + 3) L S n = kV O j n0 Q (pc + 3) L S n := kR_V
  rw [← e]; exact J_callV (As := [v1, v2, v3, v4]) ce_157 (by rw [hm]) rfl rfl (by decide +kernel) rfl rfl hd
theorem ce_158 : (1, 164, 0, 59, 1152, 1) ∈ calL := by decide +kernel
theorem c_158 {O : pO} {j n0 : Nat} {Q : pQ} {pc : Nat} {L : pL} {S : List pv} {n : Nat} {M : pM} {b : Nat} {v1 v2 v3 : pv} (hm : mO j = 1) (hd : decode (mB j) pc = .ok (.invokevirtual 164, 3)) : J O j n0 Q pc L (v3 :: v2 :: v1 :: vr (b + 1) :: S) n M = (ob n b = 4 ∧ stk S ≤ 8 ∧ mo O 59 [vr (b + 1), v1, v2, v3] n M (kI O j n0 Q (pc + 3) L S n)) := by
  have e : kR (mR 59) O j n0 Q (pc + 3) L S n = kI O j n0 Q (pc + 3) L S n := kR_I (Or.inl rfl)
  rw [← e]; exact J_callV (As := [v1, v2, v3]) ce_158 (by rw [hm]) rfl rfl (by decide +kernel) rfl rfl hd
theorem ce_159 : (1, 167, 0, 22, 1153, 0) ∈ calL := by decide +kernel
theorem c_159 {O : pO} {j n0 : Nat} {Q : pQ} {pc : Nat} {L : pL} {S : List pv} {n : Nat} {M : pM} {b : Nat} {v1 v2 : pv} (hm : mO j = 1) (hd : decode (mB j) pc = .ok (.invokevirtual 167, 3)) : J O j n0 Q pc L (v2 :: v1 :: vr (b + 1) :: S) n M = (ob n b = 1 ∧ stk S ≤ 8 ∧ mo O 22 [vr (b + 1), v1, v2] n M (kL O j n0 Q (pc + 3) L S n)) := by
  have e : kR (mR 22) O j n0 Q (pc + 3) L S n = kL O j n0 Q (pc + 3) L S n := kR_L
  rw [← e]; exact J_callV (As := [v1, v2]) ce_159 (by rw [hm]) rfl rfl (by decide +kernel) rfl rfl hd
theorem ce_160 : (1, 171, 1, 298, 1158, 0) ∈ calL := by decide +kernel
theorem c_160 {O : pO} {j n0 : Nat} {Q : pQ} {pc : Nat} {L : pL} {S : List pv} {n : Nat} {M : pM} {a b : Int} (hm : mO j = 1) (hd : decode (mB j) pc = .ok (.invokestatic 171, 3)) : J O j n0 Q pc L (vi b :: vi a :: S) n M = (stk S ≤ 8 ∧ J O j n0 Q (pc + 3) L (vi (if a < b then b else a) :: S) n M) := J_max ce_160 (by rw [hm]) rfl (by decide +kernel) hd
theorem ce_161 : (1, 81, 0, 18, 1159, 0) ∈ calL := by decide +kernel
theorem c_161 {O : pO} {j n0 : Nat} {Q : pQ} {pc : Nat} {L : pL} {S : List pv} {n : Nat} {M : pM} {b : Nat} {v1 : pv} (hm : mO j = 1) (hd : decode (mB j) pc = .ok (.invokevirtual 81, 3)) : J O j n0 Q pc L (v1 :: vr (b + 1) :: S) n M = (ob n b = 1 ∧ stk S ≤ 8 ∧ mo O 18 [vr (b + 1), v1] n M (kI O j n0 Q (pc + 3) L S n)) := by
  have e : kR (mR 18) O j n0 Q (pc + 3) L S n = kI O j n0 Q (pc + 3) L S n := kR_I (Or.inr (Or.inl rfl))
  rw [← e]; exact J_callV (As := [v1]) ce_161 (by rw [hm]) rfl rfl (by decide +kernel) rfl rfl hd
theorem ce_162 : (1, 131, 0, 17, 1163, 0) ∈ calL := by decide +kernel
theorem c_162 {O : pO} {j n0 : Nat} {Q : pQ} {pc : Nat} {L : pL} {S : List pv} {n : Nat} {M : pM} {b : Nat} {v1 : pv} (hm : mO j = 1) (hd : decode (mB j) pc = .ok (.invokevirtual 131, 3)) : J O j n0 Q pc L (v1 :: vr (b + 1) :: S) n M = (ob n b = 1 ∧ stk S ≤ 8 ∧ mo O 17 [vr (b + 1), v1] n M (kL O j n0 Q (pc + 3) L S n)) := by
  have e : kR (mR 17) O j n0 Q (pc + 3) L S n = kL O j n0 Q (pc + 3) L S n := kR_L
  rw [← e]; exact J_callV (As := [v1]) ce_162 (by rw [hm]) rfl rfl (by decide +kernel) rfl rfl hd
theorem ce_163 : (1, 123, 0, 5, 1167, 1) ∈ calL := by decide +kernel
theorem c_163 {O : pO} {j n0 : Nat} {Q : pQ} {pc : Nat} {L : pL} {S : List pv} {n : Nat} {M : pM} {b : Nat} (hm : mO j = 1) (hd : decode (mB j) pc = .ok (.invokevirtual 123, 3)) : J O j n0 Q pc L (vr (b + 1) :: S) n M = (ob n b = 0 ∧ stk S ≤ 8 ∧ mo O 5 [vr (b + 1)] n M (kI O j n0 Q (pc + 3) L S n)) := by
  have e : kR (mR 5) O j n0 Q (pc + 3) L S n = kI O j n0 Q (pc + 3) L S n := kR_I (Or.inl rfl)
  rw [← e]; exact J_callV (As := []) ce_163 (by rw [hm]) rfl rfl (by decide +kernel) rfl rfl hd
theorem ce_164 : (0, 37, 0, 4, 1171, 0) ∈ calL := by decide +kernel
theorem c_164 {O : pO} {j n0 : Nat} {Q : pQ} {pc : Nat} {L : pL} {S : List pv} {n : Nat} {M : pM} {b : Nat} (hm : mO j = 0) (hd : decode (mB j) pc = .ok (.invokevirtual 37, 3)) : J O j n0 Q pc L (vr (b + 1) :: S) n M = (ob n b = 0 ∧ stk S ≤ 8 ∧ mo O 4 [vr (b + 1)] n M (kI O j n0 Q (pc + 3) L S n)) := by
  have e : kR (mR 4) O j n0 Q (pc + 3) L S n = kI O j n0 Q (pc + 3) L S n := kR_I (Or.inl rfl)
  rw [← e]; exact J_callV (As := []) ce_164 (by rw [hm]) rfl rfl (by decide +kernel) rfl rfl hd
theorem ce_165 : (1, 85, 0, 24, 1172, 0) ∈ calL := by decide +kernel
theorem c_165 {O : pO} {j n0 : Nat} {Q : pQ} {pc : Nat} {L : pL} {S : List pv} {n : Nat} {M : pM} {b : Nat} (hm : mO j = 1) (hd : decode (mB j) pc = .ok (.invokevirtual 85, 3)) : J O j n0 Q pc L (vr (b + 1) :: S) n M = (ob n b = 1 ∧ stk S ≤ 8 ∧ mo O 24 [vr (b + 1)] n M (kV O j n0 Q (pc + 3) L S n)) := by
  have e : kR (mR 24) O j n0 Q (pc + 3) L S n = kV O j n0 Q (pc + 3) L S n := kR_V
  rw [← e]; exact J_callV (As := []) ce_165 (by rw [hm]) rfl rfl (by decide +kernel) rfl rfl hd
theorem ce_166 : (1, 174, 0, 25, 1176, 0) ∈ calL := by decide +kernel
theorem c_166 {O : pO} {j n0 : Nat} {Q : pQ} {pc : Nat} {L : pL} {S : List pv} {n : Nat} {M : pM} {b : Nat} {v1 v2 v3 : pv} (hm : mO j = 1) (hd : decode (mB j) pc = .ok (.invokevirtual 174, 3)) : J O j n0 Q pc L (v3 :: v2 :: v1 :: vr (b + 1) :: S) n M = (ob n b = 1 ∧ stk S ≤ 8 ∧ mo O 25 [vr (b + 1), v1, v2, v3] n M (kL O j n0 Q (pc + 3) L S n)) := by
  have e : kR (mR 25) O j n0 Q (pc + 3) L S n = kL O j n0 Q (pc + 3) L S n := kR_L
  rw [← e]; exact J_callV (As := [v1, v2, v3]) ce_166 (by rw [hm]) rfl rfl (by decide +kernel) rfl rfl hd
theorem ce_167 : (1, 178, 0, 23, 1180, 0) ∈ calL := by decide +kernel
theorem c_167 {O : pO} {j n0 : Nat} {Q : pQ} {pc : Nat} {L : pL} {S : List pv} {n : Nat} {M : pM} {b : Nat} {v1 v2 : pv} (hm : mO j = 1) (hd : decode (mB j) pc = .ok (.invokevirtual 178, 3)) : J O j n0 Q pc L (v2 :: v1 :: vr (b + 1) :: S) n M = (ob n b = 1 ∧ stk S ≤ 8 ∧ mo O 23 [vr (b + 1), v1, v2] n M (kL O j n0 Q (pc + 3) L S n)) := by
  have e : kR (mR 23) O j n0 Q (pc + 3) L S n = kL O j n0 Q (pc + 3) L S n := kR_L
  rw [← e]; exact J_callV (As := [v1, v2]) ce_167 (by rw [hm]) rfl rfl (by decide +kernel) rfl rfl hd
theorem ce_168 : (11, 334, 0, 26, 1184, 1) ∈ calL := by decide +kernel
theorem c_168 {O : pO} {j n0 : Nat} {Q : pQ} {pc : Nat} {L : pL} {S : List pv} {n : Nat} {M : pM} {b : Nat} (hm : mO j = 11) (hd : decode (mB j) pc = .ok (.invokevirtual 334, 3)) : J O j n0 Q pc L (vr (b + 1) :: S) n M = (ob n b = 1 ∧ stk S ≤ 8 ∧ mo O 26 [vr (b + 1)] n M (kV O j n0 Q (pc + 3) L S n)) := by
  have e : kR (mR 26) O j n0 Q (pc + 3) L S n = kV O j n0 Q (pc + 3) L S n := kR_V
  rw [← e]; exact J_callV (As := []) ce_168 (by rw [hm]) rfl rfl (by decide +kernel) rfl rfl hd
theorem ce_169 : (1, 181, 0, 27, 1188, 0) ∈ calL := by decide +kernel
theorem c_169 {O : pO} {j n0 : Nat} {Q : pQ} {pc : Nat} {L : pL} {S : List pv} {n : Nat} {M : pM} {b : Nat} {v1 v2 v3 v4 : pv} (hm : mO j = 1) (hd : decode (mB j) pc = .ok (.invokevirtual 181, 3)) : J O j n0 Q pc L (v4 :: v3 :: v2 :: v1 :: vr (b + 1) :: S) n M = (ob n b = 1 ∧ stk S ≤ 8 ∧ mo O 27 [vr (b + 1), v1, v2, v3, v4] n M (kI O j n0 Q (pc + 3) L S n)) := by
  have e : kR (mR 27) O j n0 Q (pc + 3) L S n = kI O j n0 Q (pc + 3) L S n := kR_I (Or.inl rfl)
  rw [← e]; exact J_callV (As := [v1, v2, v3, v4]) ce_169 (by rw [hm]) rfl rfl (by decide +kernel) rfl rfl hd
theorem ce_170 : (1, 184, 0, 61, 1192, 1) ∈ calL := by decide +kernel
theorem c_170 {O : pO} {j n0 : Nat} {Q : pQ} {pc : Nat} {L : pL} {S : List pv} {n : Nat} {M : pM} {b : Nat} {v1 v2 v3 v4 v5 : pv} (hm : mO j = 1) (hd : decode (mB j) pc = .ok (.invokevirtual 184, 3)) : J O j n0 Q pc L (v5 :: v4 :: v3 :: v2 :: v1 :: vr (b + 1) :: S) n M = (ob n b = 4 ∧ stk S ≤ 8 ∧ mo O 61 [vr (b + 1), v1, v2, v3, v4, v5] n M (kI O j n0 Q (pc + 3) L S n)) := by
  have e : kR (mR 61) O j n0 Q (pc + 3) L S n = kI O j n0 Q (pc + 3) L S n := kR_I (Or.inl rfl)
  rw [← e]; exact J_callV (As := [v1, v2, v3, v4, v5]) ce_170 (by rw [hm]) rfl rfl (by decide +kernel) rfl rfl hd
theorem ce_171 : (1, 188, 0, 28, 1193, 0) ∈ calL := by decide +kernel
theorem c_171 {O : pO} {j n0 : Nat} {Q : pQ} {pc : Nat} {L : pL} {S : List pv} {n : Nat} {M : pM} {b : Nat} {v1 v2 : pv} (hm : mO j = 1) (hd : decode (mB j) pc = .ok (.invokevirtual 188, 3)) : J O j n0 Q pc L (v2 :: v1 :: vr (b + 1) :: S) n M = (ob n b = 1 ∧ stk S ≤ 8 ∧ mo O 28 [vr (b + 1), v1, v2] n M (kI O j n0 Q (pc + 3) L S n)) := by
  have e : kR (mR 28) O j n0 Q (pc + 3) L S n = kI O j n0 Q (pc + 3) L S n := kR_I (Or.inr (Or.inl rfl))
  rw [← e]; exact J_callV (As := [v1, v2]) ce_171 (by rw [hm]) rfl rfl (by decide +kernel) rfl rfl hd
theorem ce_172 : (13, 67, 0, 141, 1197, 0) ∈ calL := by decide +kernel
theorem c_172 {O : pO} {j n0 : Nat} {Q : pQ} {pc : Nat} {L : pL} {S : List pv} {n : Nat} {M : pM} {b : Nat} {v1 v2 v3 v4 v5 v6 : pv} (hm : mO j = 13) (hd : decode (mB j) pc = .ok (.invokevirtual 67, 3)) : J O j n0 Q pc L (v6 :: v5 :: v4 :: v3 :: v2 :: v1 :: vr (b + 1) :: S) n M = (ob n b = 11 ∧ stk S ≤ 8 ∧ mo O 141 [vr (b + 1), v1, v2, v3, v4, v5, v6] n M (kI O j n0 Q (pc + 3) L S n)) := by
  have e : kR (mR 141) O j n0 Q (pc + 3) L S n = kI O j n0 Q (pc + 3) L S n := kR_I (Or.inl rfl)
  rw [← e]; exact J_callV (As := [v1, v2, v3, v4, v5, v6]) ce_172 (by rw [hm]) rfl rfl (by decide +kernel) rfl rfl hd
theorem ce_173 : (13, 72, 0, 142, 1201, 0) ∈ calL := by decide +kernel
theorem c_173 {O : pO} {j n0 : Nat} {Q : pQ} {pc : Nat} {L : pL} {S : List pv} {n : Nat} {M : pM} {b : Nat} {v1 v2 v3 v4 : pv} (hm : mO j = 13) (hd : decode (mB j) pc = .ok (.invokevirtual 72, 3)) : J O j n0 Q pc L (v4 :: v3 :: v2 :: v1 :: vr (b + 1) :: S) n M = (ob n b = 11 ∧ stk S ≤ 8 ∧ mo O 142 [vr (b + 1), v1, v2, v3, v4] n M (kI O j n0 Q (pc + 3) L S n)) := by
  have e : kR (mR 142) O j n0 Q (pc + 3) L S n = kI O j n0 Q (pc + 3) L S n := kR_I (Or.inl rfl)
  rw [← e]; exact J_callV (As := [v1, v2, v3, v4]) ce_173 (by rw [hm]) rfl rfl (by decide +kernel) rfl rfl hd
theorem ce_174 : (11, 188, 0, 12, 1205, 1) ∈ calL := by decide +kernel
theorem c_174 {O : pO} {j n0 : Nat} {Q : pQ} {pc : Nat} {L : pL} {S : List pv} {n : Nat} {M : pM} {b : Nat} {v1 v2 v3 v4 v5 : pv} (hm : mO j = 11) (hd : decode (mB j) pc = .ok (.invokevirtual 188, 3)) : J O j n0 Q pc L (v5 :: v4 :: v3 :: v2 :: v1 :: vr (b + 1) :: S) n M = (ob n b = 1 ∧ stk S ≤ 8 ∧ mo O 12 [vr (b + 1), v1, v2, v3, v4, v5] n M (kI O j n0 Q (pc + 3) L S n)) := by
  have e : kR (mR 12) O j n0 Q (pc + 3) L S n = kI O j n0 Q (pc + 3) L S n := kR_I (Or.inl rfl)
  rw [← e]; exact J_callV (As := [v1, v2, v3, v4, v5]) ce_174 (by rw [hm]) rfl rfl (by decide +kernel) rfl rfl hd
theorem ce_175 : (1, 88, 0, 16, 1209, 0) ∈ calL := by decide +kernel
theorem c_175 {O : pO} {j n0 : Nat} {Q : pQ} {pc : Nat} {L : pL} {S : List pv} {n : Nat} {M : pM} {b : Nat} {v1 : pv} (hm : mO j = 1) (hd : decode (mB j) pc = .ok (.invokevirtual 88, 3)) : J O j n0 Q pc L (v1 :: vr (b + 1) :: S) n M = (ob n b = 1 ∧ stk S ≤ 8 ∧ mo O 16 [vr (b + 1), v1] n M (kL O j n0 Q (pc + 3) L S n)) := by
  have e : kR (mR 16) O j n0 Q (pc + 3) L S n = kL O j n0 Q (pc + 3) L S n := kR_L
  rw [← e]; exact J_callV (As := [v1]) ce_175 (by rw [hm]) rfl rfl (by decide +kernel) rfl rfl hd
theorem ce_176 : (1, 98, 1, 296, 1213, 0) ∈ calL := by decide +kernel
theorem c_176 {O : pO} {j n0 : Nat} {Q : pQ} {pc : Nat} {L : pL} {S : List pv} {n : Nat} {M : pM} {v1 : pv} (hm : mO j = 1) (hd : decode (mB j) pc = .ok (.invokestatic 98, 3)) : J O j n0 Q pc L (v1 :: S) n M = (stk S ≤ 8 ∧ mo O 296 [v1] n M (kI O j n0 Q (pc + 3) L S n)) := by
  have e : kR (mR 296) O j n0 Q (pc + 3) L S n = kI O j n0 Q (pc + 3) L S n := kR_I (Or.inl rfl)
  rw [← e]; exact J_callS (As := [v1]) ce_176 (by rw [hm]) rfl rfl (by decide +kernel) rfl rfl hd
theorem ce_177 : (13, 77, 0, 143, 1219, 0) ∈ calL := by decide +kernel
theorem c_177 {O : pO} {j n0 : Nat} {Q : pQ} {pc : Nat} {L : pL} {S : List pv} {n : Nat} {M : pM} {b : Nat} {v1 v2 v3 : pv} (hm : mO j = 13) (hd : decode (mB j) pc = .ok (.invokevirtual 77, 3)) : J O j n0 Q pc L (v3 :: v2 :: v1 :: vr (b + 1) :: S) n M = (ob n b = 11 ∧ stk S ≤ 8 ∧ mo O 143 [vr (b + 1), v1, v2, v3] n M (kI O j n0 Q (pc + 3) L S n)) := by
  have e : kR (mR 143) O j n0 Q (pc + 3) L S n = kI O j n0 Q (pc + 3) L S n := kR_I (Or.inr (Or.inl rfl))
  rw [← e]; exact J_callV (As := [v1, v2, v3]) ce_177 (by rw [hm]) rfl rfl (by decide +kernel) rfl rfl hd
theorem ce_178 : (11, 192, 0, 30, 1223, 1) ∈ calL := by decide +kernel
theorem c_178 {O : pO} {j n0 : Nat} {Q : pQ} {pc : Nat} {L : pL} {S : List pv} {n : Nat} {M : pM} {b : Nat} {v1 v2 v3 : pv} (hm : mO j = 11) (hd : decode (mB j) pc = .ok (.invokevirtual 192, 3)) : J O j n0 Q pc L (v3 :: v2 :: v1 :: vr (b + 1) :: S) n M = (ob n b = 2 ∧ stk S ≤ 8 ∧ mo O 30 [vr (b + 1), v1, v2, v3] n M (kI O j n0 Q (pc + 3) L S n)) := by
  have e : kR (mR 30) O j n0 Q (pc + 3) L S n = kI O j n0 Q (pc + 3) L S n := kR_I (Or.inr (Or.inl rfl))
  rw [← e]; exact J_callV (As := [v1, v2, v3]) ce_178 (by rw [hm]) rfl rfl (by decide +kernel) rfl rfl hd
theorem ce_179 : (2, 34, 1, 31, 1227, 0) ∈ calL := by decide +kernel
theorem c_179 {O : pO} {j n0 : Nat} {Q : pQ} {pc : Nat} {L : pL} {S : List pv} {n : Nat} {M : pM} {v1 : pv} (hm : mO j = 2) (hd : decode (mB j) pc = .ok (.invokestatic 34, 3)) : J O j n0 Q pc L (v1 :: S) n M = (stk S ≤ 8 ∧ mo O 31 [v1] n M (kI O j n0 Q (pc + 3) L S n)) := by
  have e : kR (mR 31) O j n0 Q (pc + 3) L S n = kI O j n0 Q (pc + 3) L S n := kR_I (Or.inr (Or.inl rfl))
  rw [← e]; exact J_callS (As := [v1]) ce_179 (by rw [hm]) rfl rfl (by decide +kernel) rfl rfl hd
theorem ce_180 : (2, 41, 1, 322, 1230, 0) ∈ calL := by decide +kernel
theorem c_180 {O : pO} {j n0 : Nat} {Q : pQ} {pc : Nat} {L : pL} {S : List pv} {n : Nat} {M : pM} {v1 v2 : pv} (hm : mO j = 2) (hd : decode (mB j) pc = .ok (.invokestatic 41, 3)) : J O j n0 Q pc L (v2 :: v1 :: S) n M = (stk S ≤ 8 ∧ mo O 322 [v1, v2] n M (kV O j n0 Q (pc + 3) L S n)) := by
  have e : kR (mR 322) O j n0 Q (pc + 3) L S n = kV O j n0 Q (pc + 3) L S n := kR_V
  rw [← e]; exact J_callS (As := [v1, v2]) ce_180 (by rw [hm]) rfl rfl (by decide +kernel) rfl rfl hd
theorem ce_181 : (13, 82, 0, 144, 1231, 0) ∈ calL := by decide +kernel
theorem c_181 {O : pO} {j n0 : Nat} {Q : pQ} {pc : Nat} {L : pL} {S : List pv} {n : Nat} {M : pM} {b : Nat} {v1 v2 : pv} (hm : mO j = 13) (hd : decode (mB j) pc = .ok (.invokevirtual 82, 3)) : J O j n0 Q pc L (v2 :: v1 :: vr (b + 1) :: S) n M = (ob n b = 11 ∧ stk S ≤ 8 ∧ mo O 144 [vr (b + 1), v1, v2] n M (kI O j n0 Q (pc + 3) L S n)) := by
  have e : kR (mR 144) O j n0 Q (pc + 3) L S n = kI O j n0 Q (pc + 3) L S n := kR_I (Or.inl rfl)
  rw [← e]; exact J_callV (As := [v1, v2]) ce_181 (by rw [hm]) rfl rfl (by decide +kernel) rfl rfl hd
theorem ce_182 : (11, 195, 0, 32, 1235, 1) ∈ calL := by decide +kernel
theorem c_182 {O : pO} {j n0 : Nat} {Q : pQ} {pc : Nat} {L : pL} {S : List pv} {n : Nat} {M : pM} {b : Nat} {v1 v2 : pv} (hm : mO j = 11) (hd : decode (mB j) pc = .ok (.invokevirtual 195, 3)) : J O j n0 Q pc L (v2 :: v1 :: vr (b + 1) :: S) n M = (ob n b = 2 ∧ stk S ≤ 8 ∧ mo O 32 [vr (b + 1), v1, v2] n M (kI O j n0 Q (pc + 3) L S n)) := by
  have e : kR (mR 32) O j n0 Q (pc + 3) L S n = kI O j n0 Q (pc + 3) L S n := kR_I (Or.inl rfl)
  rw [← e]; exact J_callV (As := [v1, v2]) ce_182 (by rw [hm]) rfl rfl (by decide +kernel) rfl rfl hd
theorem ce_183 : (2, 50, 0, 33, 1239, 0) ∈ calL := by decide +kernel
theorem c_183 {O : pO} {j n0 : Nat} {Q : pQ} {pc : Nat} {L : pL} {S : List pv} {n : Nat} {M : pM} {b : Nat} (hm : mO j = 2) (hd : decode (mB j) pc = .ok (.invokevirtual 50, 3)) : J O j n0 Q pc L (vr (b + 1) :: S) n M = (ob n b = 2 ∧ stk S ≤ 8 ∧ mo O 33 [vr (b + 1)] n M (kI O j n0 Q (pc + 3) L S n)) := by
  have e : kR (mR 33) O j n0 Q (pc + 3) L S n = kI O j n0 Q (pc + 3) L S n := kR_I (Or.inl rfl)
  rw [← e]; exact J_callV (As := []) ce_183 (by rw [hm]) rfl rfl (by decide +kernel) rfl rfl hd
theorem ce_184 : (2, 54, 1, 298, 1243, 0) ∈ calL := by decide +kernel
theorem c_184 {O : pO} {j n0 : Nat} {Q : pQ} {pc : Nat} {L : pL} {S : List pv} {n : Nat} {M : pM} {a b : Int} (hm : mO j = 2) (hd : decode (mB j) pc = .ok (.invokestatic 54, 3)) : J O j n0 Q pc L (vi b :: vi a :: S) n M = (stk S ≤ 8 ∧ J O j n0 Q (pc + 3) L (vi (if a < b then b else a) :: S) n M) := J_max ce_184 (by rw [hm]) rfl (by decide +kernel) hd
theorem ce_185 : (13, 87, 0, 145, 1244, 0) ∈ calL := by decide +kernel
theorem c_185 {O : pO} {j n0 : Nat} {Q : pQ} {pc : Nat} {L : pL} {S : List pv} {n : Nat} {M : pM} {b : Nat} {v1 v2 : pv} (hm : mO j = 13) (hd : decode (mB j) pc = .ok (.invokevirtual 87, 3)) : J O j n0 Q pc L (v2 :: v1 :: vr (b + 1) :: S) n M = (ob n b = 11 ∧ stk S ≤ 8 ∧ mo O 145 [vr (b + 1), v1, v2] n M (kI O j n0 Q (pc + 3) L S n)) := by
  have e : kR (mR 145) O j n0 Q (pc + 3) L S n = kI O j n0 Q (pc + 3) L S n := kR_I (Or.inl rfl)
  rw [← e]; exact J_callV (As := [v1, v2]) ce_185 (by rw [hm]) rfl rfl (by decide +kernel) rfl rfl hd
theorem ce_186 : (11, 199, 0, 34, 1248, 1) ∈ calL := by decide +kernel
theorem c_186 {O : pO} {j n0 : Nat} {Q : pQ} {pc : Nat} {L : pL} {S : List pv} {n : Nat} {M : pM} {b : Nat} {v1 v2 : pv} (hm : mO j = 11) (hd : decode (mB j) pc = .ok (.invokevirtual 199, 3)) : J O j n0 Q pc L (v2 :: v1 :: vr (b + 1) :: S) n M = (ob n b = 2 ∧ stk S ≤ 8 ∧ mo O 34 [vr (b + 1), v1, v2] n M (kI O j n0 Q (pc + 3) L S n)) := by
  have e : kR (mR 34) O j n0 Q (pc + 3) L S n = kI O j n0 Q (pc + 3) L S n := kR_I (Or.inl rfl)
  rw [← e]; exact J_callV (As := [v1, v2]) ce_186 (by rw [hm]) rfl rfl (by decide +kernel) rfl rfl hd
theorem ce_187 : (13, 91, 0, 146, 1252, 0) ∈ calL := by decide +kernel
theorem c_187 {O : pO} {j n0 : Nat} {Q : pQ} {pc : Nat} {L : pL} {S : List pv} {n : Nat} {M : pM} {b : Nat} {v1 : pv} (hm : mO j = 13) (hd : decode (mB j) pc = .ok (.invokevirtual 91, 3)) : J O j n0 Q pc L (v1 :: vr (b + 1) :: S) n M = (ob n b = 11 ∧ stk S ≤ 8 ∧ mo O 146 [vr (b + 1), v1] n M (kI O j n0 Q (pc + 3) L S n)) := by
  have e : kR (mR 146) O j n0 Q (pc + 3) L S n = kI O j n0 Q (pc + 3) L S n := kR_I (Or.inl rfl)
  rw [← e]; exact J_callV (As := [v1]) ce_187 (by rw [hm]) rfl rfl (by decide +kernel) rfl rfl hd
theorem ce_188 : (11, 202, 0, 116, 1256, 1) ∈ calL := by decide +kernel
theorem c_188 {O : pO} {j n0 : Nat} {Q : pQ} {pc : Nat} {L : pL} {S : List pv} {n : Nat} {M : pM} {b : Nat} {v1 : pv} (hm : mO j = 11) (hd : decode (mB j) pc = .ok (.invokevirtual 202, 3)) : J O j n0 Q pc L (v1 :: vr (b + 1) :: S) n M = (ob n b = 9 ∧ stk S ≤ 8 ∧ mo O 116 [vr (b + 1), v1] n M (kI O j n0 Q (pc + 3) L S n)) := by
  have e : kR (mR 116) O j n0 Q (pc + 3) L S n = kI O j n0 Q (pc + 3) L S n := kR_I (Or.inl rfl)
  rw [← e]; exact J_callV (As := [v1]) ce_188 (by rw [hm]) rfl rfl (by decide +kernel) rfl rfl hd
theorem ce_189 : (13, 95, 0, 147, 1260, 0) ∈ calL := by decide +kernel
theorem c_189 {O : pO} {j n0 : Nat} {Q : pQ} {pc : Nat} {L : pL} {S : List pv} {n : Nat} {M : pM} {b : Nat} {v1 v2 v3 v4 : pv} (hm : mO j = 13) (hd : decode (mB j) pc = .ok (.invokevirtual 95, 3)) : J O j n0 Q pc L (v4 :: v3 :: v2 :: v1 :: vr (b + 1) :: S) n M = (ob n b = 11 ∧ stk S ≤ 8 ∧ mo O 147 [vr (b + 1), v1, v2, v3, v4] n M (kI O j n0 Q (pc + 3) L S n)) := by
  have e : kR (mR 147) O j n0 Q (pc + 3) L S n = kI O j n0 Q (pc + 3) L S n := kR_I (Or.inl rfl)
  rw [← e]; exact J_callV (As := [v1, v2, v3, v4]) ce_189 (by rw [hm]) rfl rfl (by decide +kernel) rfl rfl hd
theorem ce_190 : (11, 205, 0, 115, 1264, 1) ∈ calL := by decide +kernel
theorem c_190 {O : pO} {j n0 : Nat} {Q : pQ} {pc : Nat} {L : pL} {S : List pv} {n : Nat} {M : pM} {b : Nat} {v1 : pv} (hm : mO j = 11) (hd : decode (mB j) pc = .ok (.invokevirtual 205, 3)) : J O j n0 Q pc L (v1 :: vr (b + 1) :: S) n M = (ob n b = 9 ∧ stk S ≤ 8 ∧ mo O 115 [vr (b + 1), v1] n M (kI O j n0 Q (pc + 3) L S n)) := by
  have e : kR (mR 115) O j n0 Q (pc + 3) L S n = kI O j n0 Q (pc + 3) L S n := kR_I (Or.inr (Or.inl rfl))
  rw [← e]; exact J_callV (As := [v1]) ce_190 (by rw [hm]) rfl rfl (by decide +kernel) rfl rfl hd
theorem ce_191 : (11, 208, 0, 117, 1268, 1) ∈ calL := by decide +kernel
theorem c_191 {O : pO} {j n0 : Nat} {Q : pQ} {pc : Nat} {L : pL} {S : List pv} {n : Nat} {M : pM} {b : Nat} {v1 v2 v3 v4 : pv} (hm : mO j = 11) (hd : decode (mB j) pc = .ok (.invokevirtual 208, 3)) : J O j n0 Q pc L (v4 :: v3 :: v2 :: v1 :: vr (b + 1) :: S) n M = (ob n b = 9 ∧ stk S ≤ 8 ∧ mo O 117 [vr (b + 1), v1, v2, v3, v4] n M (kI O j n0 Q (pc + 3) L S n)) := by
  have e : kR (mR 117) O j n0 Q (pc + 3) L S n = kI O j n0 Q (pc + 3) L S n := kR_I (Or.inl rfl)
  rw [← e]; exact J_callV (As := [v1, v2, v3, v4]) ce_191 (by rw [hm]) rfl rfl (by decide +kernel) rfl rfl hd
theorem ce_192 : (13, 99, 0, 148, 1272, 0) ∈ calL := by decide +kernel
theorem c_192 {O : pO} {j n0 : Nat} {Q : pQ} {pc : Nat} {L : pL} {S : List pv} {n : Nat} {M : pM} {b : Nat} {v1 : pv} (hm : mO j = 13) (hd : decode (mB j) pc = .ok (.invokevirtual 99, 3)) : J O j n0 Q pc L (v1 :: vr (b + 1) :: S) n M = (ob n b = 11 ∧ stk S ≤ 8 ∧ mo O 148 [vr (b + 1), v1] n M (kI O j n0 Q (pc + 3) L S n)) := by
  have e : kR (mR 148) O j n0 Q (pc + 3) L S n = kI O j n0 Q (pc + 3) L S n := kR_I (Or.inr (Or.inl rfl))
  rw [← e]; exact J_callV (As := [v1]) ce_192 (by rw [hm]) rfl rfl (by decide +kernel) rfl rfl hd
theorem ce_193 : (11, 212, 0, 118, 1276, 1) ∈ calL := by decide +kernel
theorem c_193 {O : pO} {j n0 : Nat} {Q : pQ} {pc : Nat} {L : pL} {S : List pv} {n : Nat} {M : pM} {b : Nat} {v1 : pv} (hm : mO j = 11) (hd : decode (mB j) pc = .ok (.invokevirtual 212, 3)) : J O j n0 Q pc L (v1 :: vr (b + 1) :: S) n M = (ob n b = 9 ∧ stk S ≤ 8 ∧ mo O 118 [vr (b + 1), v1] n M (kI O j n0 Q (pc + 3) L S n)) := by
  have e : kR (mR 118) O j n0 Q (pc + 3) L S n = kI O j n0 Q (pc + 3) L S n := kR_I (Or.inr (Or.inl rfl))
  rw [← e]; exact J_callV (As := [v1]) ce_193 (by rw [hm]) rfl rfl (by decide +kernel) rfl rfl hd
theorem ce_194 : (13, 104, 0, 149, 1280, 0) ∈ calL := by decide +kernel
theorem c_194 {O : pO} {j n0 : Nat} {Q : pQ} {pc : Nat} {L : pL} {S : List pv} {n : Nat} {M : pM} {b : Nat} {v1 : pv} (hm : mO j = 13) (hd : decode (mB j) pc = .ok (.invokevirtual 104, 3)) : J O j n0 Q pc L (v1 :: vr (b + 1) :: S) n M = (ob n b = 11 ∧ stk S ≤ 8 ∧ mo O 149 [vr (b + 1), v1] n M (kI O j n0 Q (pc + 3) L S n)) := by
  have e : kR (mR 149) O j n0 Q (pc + 3) L S n = kI O j n0 Q (pc + 3) L S n := kR_I (Or.inl rfl)
  rw [← e]; exact J_callV (As := [v1]) ce_194 (by rw [hm]) rfl rfl (by decide +kernel) rfl rfl hd
theorem ce_195 : (11, 215, 0, 119, 1284, 1) ∈ calL := by decide +kernel
theorem c_195 {O : pO} {j n0 : Nat} {Q : pQ} {pc : Nat} {L : pL} {S : List pv} {n : Nat} {M : pM} {b : Nat} {v1 : pv} (hm : mO j = 11) (hd : decode (mB j) pc = .ok (.invokevirtual 215, 3)) : J O j n0 Q pc L (v1 :: vr (b + 1) :: S) n M = (ob n b = 9 ∧ stk S ≤ 8 ∧ mo O 119 [vr (b + 1), v1] n M (kI O j n0 Q (pc + 3) L S n)) := by
  have e : kR (mR 119) O j n0 Q (pc + 3) L S n = kI O j n0 Q (pc + 3) L S n := kR_I (Or.inl rfl)
  rw [← e]; exact J_callV (As := [v1]) ce_195 (by rw [hm]) rfl rfl (by decide +kernel) rfl rfl hd
theorem ce_196 : (13, 108, 0, 150, 1289, 0) ∈ calL := by decide +kernel
theorem c_196 {O : pO} {j n0 : Nat} {Q : pQ} {pc : Nat} {L : pL} {S : List pv} {n : Nat} {M : pM} {b : Nat} {v1 : pv} (hm : mO j = 13) (hd : decode (mB j) pc = .ok (.invokevirtual 108, 3)) : J O j n0 Q pc L (v1 :: vr (b + 1) :: S) n M = (ob n b = 11 ∧ stk S ≤ 8 ∧ mo O 150 [vr (b + 1), v1] n M (kI O j n0 Q (pc + 3) L S n)) := by
  have e : kR (mR 150) O j n0 Q (pc + 3) L S n = kI O j n0 Q (pc + 3) L S n := kR_I (Or.inr (Or.inl rfl))
  rw [← e]; exact J_callV (As := [v1]) ce_196 (by rw [hm]) rfl rfl (by decide +kernel) rfl rfl hd
theorem ce_197 : (13, 112, 0, 151, 1293, 0) ∈ calL := by decide +kernel
theorem c_197 {O : pO} {j n0 : Nat} {Q : pQ} {pc : Nat} {L : pL} {S : List pv} {n : Nat} {M : pM} {b : Nat} {v1 v2 v3 : pv} (hm : mO j = 13) (hd : decode (mB j) pc = .ok (.invokevirtual 112, 3)) : J O j n0 Q pc L (v3 :: v2 :: v1 :: vr (b + 1) :: S) n M = (ob n b = 11 ∧ stk S ≤ 8 ∧ mo O 151 [vr (b + 1), v1, v2, v3] n M (kI O j n0 Q (pc + 3) L S n)) := by
  have e : kR (mR 151) O j n0 Q (pc + 3) L S n = kI O j n0 Q (pc + 3) L S n := kR_I (Or.inl rfl)
  rw [← e]; exact J_callV (As := [v1, v2, v3]) ce_197 (by rw [hm]) rfl rfl (by decide +kernel) rfl rfl hd
theorem ce_198 : (11, 221, 0, 165, 1297, 0) ∈ calL := by decide +kernel
theorem c_198 {O : pO} {j n0 : Nat} {Q : pQ} {pc : Nat} {L : pL} {S : List pv} {n : Nat} {M : pM} {b : Nat} {v1 : pv} (hm : mO j = 11) (hd : decode (mB j) pc = .ok (.invokevirtual 221, 3)) : J O j n0 Q pc L (v1 :: vr (b + 1) :: S) n M = (ob n b = 11 ∧ stk S ≤ 8 ∧ mo O 165 [vr (b + 1), v1] n M (kI O j n0 Q (pc + 3) L S n)) := by
  have e : kR (mR 165) O j n0 Q (pc + 3) L S n = kI O j n0 Q (pc + 3) L S n := kR_I (Or.inr (Or.inl rfl))
  rw [← e]; exact J_callV (As := [v1]) ce_198 (by rw [hm]) rfl rfl (by decide +kernel) rfl rfl hd
theorem ce_199 : (11, 224, 0, 99, 1301, 1) ∈ calL := by decide +kernel
theorem c_199 {O : pO} {j n0 : Nat} {Q : pQ} {pc : Nat} {L : pL} {S : List pv} {n : Nat} {M : pM} {b : Nat} {v1 v2 v3 : pv} (hm : mO j = 11) (hd : decode (mB j) pc = .ok (.invokevirtual 224, 3)) : J O j n0 Q pc L (v3 :: v2 :: v1 :: vr (b + 1) :: S) n M = (ob n b = 8 ∧ stk S ≤ 8 ∧ mo O 99 [vr (b + 1), v1, v2, v3] n M (kV O j n0 Q (pc + 3) L S n)) := by
  have e : kR (mR 99) O j n0 Q (pc + 3) L S n = kV O j n0 Q (pc + 3) L S n := kR_V
  rw [← e]; exact J_callV (As := [v1, v2, v3]) ce_199 (by rw [hm]) rfl rfl (by decide +kernel) rfl rfl hd
theorem ce_200 : (8, 24, 1, 322, 1305, 0) ∈ calL := by decide +kernel
theorem c_200 {O : pO} {j n0 : Nat} {Q : pQ} {pc : Nat} {L : pL} {S : List pv} {n : Nat} {M : pM} {v1 v2 : pv} (hm : mO j = 8) (hd : decode (mB j) pc = .ok (.invokestatic 24, 3)) : J O j n0 Q pc L (v2 :: v1 :: S) n M = (stk S ≤ 8 ∧ mo O 322 [v1, v2] n M (kV O j n0 Q (pc + 3) L S n)) := by
  have e : kR (mR 322) O j n0 Q (pc + 3) L S n = kV O j n0 Q (pc + 3) L S n := kR_V
  rw [← e]; exact J_callS (As := [v1, v2]) ce_200 (by rw [hm]) rfl rfl (by decide +kernel) rfl rfl hd
theorem ce_201 : (8, 39, 0, 120, 1306, 1) ∈ calL := by decide +kernel
theorem c_201 {O : pO} {j n0 : Nat} {Q : pQ} {pc : Nat} {L : pL} {S : List pv} {n : Nat} {M : pM} {b : Nat} {v1 v2 : pv} (hm : mO j = 8) (hd : decode (mB j) pc = .ok (.invokevirtual 39, 3)) : J O j n0 Q pc L (v2 :: v1 :: vr (b + 1) :: S) n M = (ob n b = 9 ∧ stk S ≤ 8 ∧ mo O 120 [vr (b + 1), v1, v2] n M (kI O j n0 Q (pc + 3) L S n)) := by
  have e : kR (mR 120) O j n0 Q (pc + 3) L S n = kI O j n0 Q (pc + 3) L S n := kR_I (Or.inr (Or.inl rfl))
  rw [← e]; exact J_callV (As := [v1, v2]) ce_201 (by rw [hm]) rfl rfl (by decide +kernel) rfl rfl hd
theorem ce_202 : (11, 228, 0, 102, 1310, 1) ∈ calL := by decide +kernel
theorem c_202 {O : pO} {j n0 : Nat} {Q : pQ} {pc : Nat} {L : pL} {S : List pv} {n : Nat} {M : pM} {b : Nat} {v1 : pv} (hm : mO j = 11) (hd : decode (mB j) pc = .ok (.invokevirtual 228, 3)) : J O j n0 Q pc L (v1 :: vr (b + 1) :: S) n M = (ob n b = 8 ∧ stk S ≤ 8 ∧ mo O 102 [vr (b + 1), v1] n M (kI O j n0 Q (pc + 3) L S n)) := by
  have e : kR (mR 102) O j n0 Q (pc + 3) L S n = kI O j n0 Q (pc + 3) L S n := kR_I (Or.inl rfl)
  rw [← e]; exact J_callV (As := [v1]) ce_202 (by rw [hm]) rfl rfl (by decide +kernel) rfl rfl hd
theorem ce_203 : (8, 68, 0, 100, 1314, 0) ∈ calL := by decide +kernel
theorem c_203 {O : pO} {j n0 : Nat} {Q : pQ} {pc : Nat} {L : pL} {S : List pv} {n : Nat} {M : pM} {b : Nat} {v1 v2 v3 : pv} (hm : mO j = 8) (hd : decode (mB j) pc = .ok (.invokevirtual 68, 3)) : J O j n0 Q pc L (v3 :: v2 :: v1 :: vr (b + 1) :: S) n M = (ob n b = 8 ∧ stk S ≤ 8 ∧ mo O 100 [vr (b + 1), v1, v2, v3] n M (kI O j n0 Q (pc + 3) L S n)) := by
  have e : kR (mR 100) O j n0 Q (pc + 3) L S n = kI O j n0 Q (pc + 3) L S n := kR_I (Or.inl rfl)
  rw [← e]; exact J_callV (As := [v1, v2, v3]) ce_203 (by rw [hm]) rfl rfl (by decide +kernel) rfl rfl hd
theorem ce_204 : (8, 55, 1, 172, 1318, 1) ∈ calL := by decide +kernel
theorem c_204 {O : pO} {j n0 : Nat} {Q : pQ} {pc : Nat} {L : pL} {S : List pv} {n : Nat} {M : pM} {v1 v2 : pv} (hm : mO j = 8) (hd : decode (mB j) pc = .ok (.invokestatic 55, 3)) : J O j n0 Q pc L (v2 :: v1 :: S) n M = (stk S ≤ 8 ∧ mo O 172 [v1, v2] n M (kI O j n0 Q (pc + 3) L S n)) := by
  have e : kR (mR 172) O j n0 Q (pc + 3) L S n = kI O j n0 Q (pc + 3) L S n := kR_I (Or.inl rfl)
  rw [← e]; exact J_callS (As := [v1, v2]) ce_204 (by rw [hm]) rfl rfl (by decide +kernel) rfl rfl hd
theorem ce_205 : (11, 347, 1, 297, 1321, 0) ∈ calL := by decide +kernel
theorem c_205 {O : pO} {j n0 : Nat} {Q : pQ} {pc : Nat} {L : pL} {S : List pv} {n : Nat} {M : pM} {a : Int} (hm : mO j = 11) (hd : decode (mB j) pc = .ok (.invokestatic 347, 3)) : J O j n0 Q pc L (vi a :: S) n M = (stk S ≤ 8 ∧ J O j n0 Q (pc + 3) L (vi (if 0 ≤ a then a else w32 (0 - a)) :: S) n M) := J_abs ce_205 (by rw [hm]) rfl (by decide +kernel) hd
theorem ce_206 : (11, 352, 1, 298, 1324, 0) ∈ calL := by decide +kernel
theorem c_206 {O : pO} {j n0 : Nat} {Q : pQ} {pc : Nat} {L : pL} {S : List pv} {n : Nat} {M : pM} {a b : Int} (hm : mO j = 11) (hd : decode (mB j) pc = .ok (.invokestatic 352, 3)) : J O j n0 Q pc L (vi b :: vi a :: S) n M = (stk S ≤ 8 ∧ J O j n0 Q (pc + 3) L (vi (if a < b then b else a) :: S) n M) := J_max ce_206 (by rw [hm]) rfl (by decide +kernel) hd
theorem ce_207 : (8, 72, 0, 103, 1325, 0) ∈ calL := by decide +kernel
theorem c_207 {O : pO} {j n0 : Nat} {Q : pQ} {pc : Nat} {L : pL} {S : List pv} {n : Nat} {M : pM} {b : Nat} {v1 v2 v3 : pv} (hm : mO j = 8) (hd : decode (mB j) pc = .ok (.invokevirtual 72, 3)) : J O j n0 Q pc L (v3 :: v2 :: v1 :: vr (b + 1) :: S) n M = (ob n b = 8 ∧ stk S ≤ 8 ∧ mo O 103 [vr (b + 1), v1, v2, v3] n M (kI O j n0 Q (pc + 3) L S n)) := by
  have e : kR (mR 103) O j n0 Q (pc + 3) L S n = kI O j n0 Q (pc + 3) L S n := kR_I (Or.inr (Or.inl rfl))
  rw [← e]; exact J_callV (As := [v1, v2, v3]) ce_207 (by rw [hm]) rfl rfl (by decide +kernel) rfl rfl hd
theorem ce_208 : (8, 76, 1, 298, 1329, 0) ∈ calL := by decide +kernel
theorem c_208 {O : pO} {j n0 : Nat} {Q : pQ} {pc : Nat} {L : pL} {S : List pv} {n : Nat} {M : pM} {a b : Int} (hm : mO j = 8) (hd : decode (mB j) pc = .ok (.invokestatic 76, 3)) : J O j n0 Q pc L (vi b :: vi a :: S) n M = (stk S ≤ 8 ∧ J O j n0 Q (pc + 3) L (vi (if a < b then b else a) :: S) n M) := J_max ce_208 (by rw [hm]) rfl (by decide +kernel) hd
theorem ce_209 : (11, 232, 0, 101, 1330, 1) ∈ calL := by decide +kernel
theorem c_209 {O : pO} {j n0 : Nat} {Q : pQ} {pc : Nat} {L : pL} {S : List pv} {n : Nat} {M : pM} {b : Nat} {v1 : pv} (hm : mO j = 11) (hd : decode (mB j) pc = .ok (.invokevirtual 232, 3)) : J O j n0 Q pc L (v1 :: vr (b + 1) :: S) n M = (ob n b = 8 ∧ stk S ≤ 8 ∧ mo O 101 [vr (b + 1), v1] n M (kV O j n0 Q (pc + 3) L S n)) := by
  have e : kR (mR 101) O j n0 Q (pc + 3) L S n = kV O j n0 Q (pc + 3) L S n := kR_V
  rw [← e]; exact J_callV (As := [v1]) ce_209 (by rw [hm]) rfl rfl (by decide +kernel) rfl rfl hd
theorem ce_210 : (13, 117, 0, 152, 1334, 0) ∈ calL := by decide +kernel
theorem c_210 {O : pO} {j n0 : Nat} {Q : pQ} {pc : Nat} {L : pL} {S : List pv} {n : Nat} {M : pM} {b : Nat} {v1 v2 v3 : pv} (hm : mO j = 13) (hd : decode (mB j) pc = .ok (.invokevirtual 117, 3)) : J O j n0 Q pc L (v3 :: v2 :: v1 :: vr (b + 1) :: S) n M = (ob n b = 11 ∧ stk S ≤ 8 ∧ mo O 152 [vr (b + 1), v1, v2, v3] n M (kI O j n0 Q (pc + 3) L S n)) := by
  have e : kR (mR 152) O j n0 Q (pc + 3) L S n = kI O j n0 Q (pc + 3) L S n := kR_I (Or.inl rfl)
  rw [← e]; exact J_callV (As := [v1, v2, v3]) ce_210 (by rw [hm]) rfl rfl (by decide +kernel) rfl rfl hd
theorem ce_211 : (11, 239, 0, 109, 1338, 1) ∈ calL := by decide +kernel
theorem c_211 {O : pO} {j n0 : Nat} {Q : pQ} {pc : Nat} {L : pL} {S : List pv} {n : Nat} {M : pM} {b : Nat} {v1 : pv} (hm : mO j = 11) (hd : decode (mB j) pc = .ok (.invokevirtual 239, 3)) : J O j n0 Q pc L (v1 :: vr (b + 1) :: S) n M = (ob n b = 8 ∧ stk S ≤ 8 ∧ mo O 109 [vr (b + 1), v1] n M (kI O j n0 Q (pc + 3) L S n)) := by
  have e : kR (mR 109) O j n0 Q (pc + 3) L S n = kI O j n0 Q (pc + 3) L S n := kR_I (Or.inl rfl)
  rw [← e]; exact J_callV (As := [v1]) ce_211 (by rw [hm]) rfl rfl (by decide +kernel) rfl rfl hd
theorem ce_212 : (8, 85, 0, 108, 1342, 0) ∈ calL := by decide +kernel
theorem c_212 {O : pO} {j n0 : Nat} {Q : pQ} {pc : Nat} {L : pL} {S : List pv} {n : Nat} {M : pM} {b : Nat} {v1 v2 : pv} (hm : mO j = 8) (hd : decode (mB j) pc = .ok (.invokevirtual 85, 3)) : J O j n0 Q pc L (v2 :: v1 :: vr (b + 1) :: S) n M = (ob n b = 8 ∧ stk S ≤ 8 ∧ mo O 108 [vr (b + 1), v1, v2] n M (kI O j n0 Q (pc + 3) L S n)) := by
  have e : kR (mR 108) O j n0 Q (pc + 3) L S n = kI O j n0 Q (pc + 3) L S n := kR_I (Or.inl rfl)
  rw [← e]; exact J_callV (As := [v1, v2]) ce_212 (by rw [hm]) rfl rfl (by decide +kernel) rfl rfl hd
theorem ce_213 : (8, 89, 0, 106, 1346, 0) ∈ calL := by decide +kernel
theorem c_213 {O : pO} {j n0 : Nat} {Q : pQ} {pc : Nat} {L : pL} {S : List pv} {n : Nat} {M : pM} {b : Nat} {v1 v2 : pv} (hm : mO j = 8) (hd : decode (mB j) pc = .ok (.invokevirtual 89, 3)) : J O j n0 Q pc L (v2 :: v1 :: vr (b + 1) :: S) n M = (ob n b = 8 ∧ stk S ≤ 8 ∧ mo O 106 [vr (b + 1), v1, v2] n M (kI O j n0 Q (pc + 3) L S n)) := by
  have e : kR (mR 106) O j n0 Q (pc + 3) L S n = kI O j n0 Q (pc + 3) L S n := kR_I (Or.inl rfl)
  rw [← e]; exact J_callV (As := [v1, v2]) ce_213 (by rw [hm]) rfl rfl (by decide +kernel) rfl rfl hd
theorem ce_214 : (8, 92, 1, 299, 1350, 0) ∈ calL := by decide +kernel
theorem c_214 {O : pO} {j n0 : Nat} {Q : pQ} {pc : Nat} {L : pL} {S : List pv} {n : Nat} {M : pM} {a b : Int} (hm : mO j = 8) (hd : decode (mB j) pc = .ok (.invokestatic 92, 3)) : J O j n0 Q pc L (vi b :: vi a :: S) n M = (stk S ≤ 8 ∧ J O j n0 Q (pc + 3) L (vi (if b < a then b else a) :: S) n M) := J_min ce_214 (by rw [hm]) rfl (by decide +kernel) hd
theorem ce_215 : (11, 242, 0, 107, 1351, 1) ∈ calL := by decide +kernel
theorem c_215 {O : pO} {j n0 : Nat} {Q : pQ} {pc : Nat} {L : pL} {S : List pv} {n : Nat} {M : pM} {b : Nat} {v1 : pv} (hm : mO j = 11) (hd : decode (mB j) pc = .ok (.invokevirtual 242, 3)) : J O j n0 Q pc L (v1 :: vr (b + 1) :: S) n M = (ob n b = 8 ∧ stk S ≤ 8 ∧ mo O 107 [vr (b + 1), v1] n M (kI O j n0 Q (pc + 3) L S n)) := by
  have e : kR (mR 107) O j n0 Q (pc + 3) L S n = kI O j n0 Q (pc + 3) L S n := kR_I (Or.inl rfl)
  rw [← e]; exact J_callV (As := [v1]) ce_215 (by rw [hm]) rfl rfl (by decide +kernel) rfl rfl hd
theorem ce_216 : (11, 245, 0, 104, 1355, 1) ∈ calL := by decide +kernel
theorem c_216 {O : pO} {j n0 : Nat} {Q : pQ} {pc : Nat} {L : pL} {S : List pv} {n : Nat} {M : pM} {b : Nat} {v1 : pv} (hm : mO j = 11) (hd : decode (mB j) pc = .ok (.invokevirtual 245, 3)) : J O j n0 Q pc L (v1 :: vr (b + 1) :: S) n M = (ob n b = 8 ∧ stk S ≤ 8 ∧ mo O 104 [vr (b + 1), v1] n M (kI O j n0 Q (pc + 3) L S n)) := by
  have e : kR (mR 104) O j n0 Q (pc + 3) L S n = kI O j n0 Q (pc + 3) L S n := kR_I (Or.inl rfl)
  rw [← e]; exact J_callV (As := [v1]) ce_216 (by rw [hm]) rfl rfl (by decide +kernel) rfl rfl hd
theorem ce_217 : (8, 81, 0, 105, 1359, 0) ∈ calL := by decide +kernel
theorem c_217 {O : pO} {j n0 : Nat} {Q : pQ} {pc : Nat} {L : pL} {S : List pv} {n : Nat} {M : pM} {b : Nat} {v1 : pv} (hm : mO j = 8) (hd : decode (mB j) pc = .ok (.invokevirtual 81, 3)) : J O j n0 Q pc L (v1 :: vr (b + 1) :: S) n M = (ob n b = 8 ∧ stk S ≤ 8 ∧ mo O 105 [vr (b + 1), v1] n M (kI O j n0 Q (pc + 3) L S n)) := by
  have e : kR (mR 105) O j n0 Q (pc + 3) L S n = kI O j n0 Q (pc + 3) L S n := kR_I (Or.inr (Or.inl rfl))
  rw [← e]; exact J_callV (As := [v1]) ce_217 (by rw [hm]) rfl rfl (by decide +kernel) rfl rfl hd
theorem ce_218 : (11, 248, 0, 110, 1363, 1) ∈ calL := by decide +kernel
theorem c_218 {O : pO} {j n0 : Nat} {Q : pQ} {pc : Nat} {L : pL} {S : List pv} {n : Nat} {M : pM} {b : Nat} {v1 : pv} (hm : mO j = 11) (hd : decode (mB j) pc = .ok (.invokevirtual 248, 3)) : J O j n0 Q pc L (v1 :: vr (b + 1) :: S) n M = (ob n b = 8 ∧ stk S ≤ 8 ∧ mo O 110 [vr (b + 1), v1] n M (kI O j n0 Q (pc + 3) L S n)) := by
  have e : kR (mR 110) O j n0 Q (pc + 3) L S n = kI O j n0 Q (pc + 3) L S n := kR_I (Or.inl rfl)
  rw [← e]; exact J_callV (As := [v1]) ce_218 (by rw [hm]) rfl rfl (by decide +kernel) rfl rfl hd
theorem ce_219 : (8, 100, 0, 56, 1367, 1) ∈ calL := by decide +kernel
theorem c_219 {O : pO} {j n0 : Nat} {Q : pQ} {pc : Nat} {L : pL} {S : List pv} {n : Nat} {M : pM} {b : Nat} {v1 : pv} (hm : mO j = 8) (hd : decode (mB j) pc = .ok (.invokevirtual 100, 3)) : J O j n0 Q pc L (v1 :: vr (b + 1) :: S) n M = (ob n b = 4 ∧ stk S ≤ 8 ∧ mo O 56 [vr (b + 1), v1] n M (kI O j n0 Q (pc + 3) L S n)) := by
  have e : kR (mR 56) O j n0 Q (pc + 3) L S n = kI O j n0 Q (pc + 3) L S n := kR_I (Or.inl rfl)
  rw [← e]; exact J_callV (As := [v1]) ce_219 (by rw [hm]) rfl rfl (by decide +kernel) rfl rfl hd
theorem ce_220 : (8, 104, 0, 57, 1371, 1) ∈ calL := by decide +kernel
theorem c_220 {O : pO} {j n0 : Nat} {Q : pQ} {pc : Nat} {L : pL} {S : List pv} {n : Nat} {M : pM} {b : Nat} {v1 : pv} (hm : mO j = 8) (hd : decode (mB j) pc = .ok (.invokevirtual 104, 3)) : J O j n0 Q pc L (v1 :: vr (b + 1) :: S) n M = (ob n b = 4 ∧ stk S ≤ 8 ∧ mo O 57 [vr (b + 1), v1] n M (kI O j n0 Q (pc + 3) L S n)) := by
  have e : kR (mR 57) O j n0 Q (pc + 3) L S n = kI O j n0 Q (pc + 3) L S n := kR_I (Or.inl rfl)
  rw [← e]; exact J_callV (As := [v1]) ce_220 (by rw [hm]) rfl rfl (by decide +kernel) rfl rfl hd
theorem ce_221 : (8, 107, 0, 55, 1375, 1) ∈ calL := by decide +kernel
theorem c_221 {O : pO} {j n0 : Nat} {Q : pQ} {pc : Nat} {L : pL} {S : List pv} {n : Nat} {M : pM} {b : Nat} {v1 v2 : pv} (hm : mO j = 8) (hd : decode (mB j) pc = .ok (.invokevirtual 107, 3)) : J O j n0 Q pc L (v2 :: v1 :: vr (b + 1) :: S) n M = (ob n b = 4 ∧ stk S ≤ 8 ∧ mo O 55 [vr (b + 1), v1, v2] n M (kI O j n0 Q (pc + 3) L S n)) := by
  have e : kR (mR 55) O j n0 Q (pc + 3) L S n = kI O j n0 Q (pc + 3) L S n := kR_I (Or.inr (Or.inl rfl))
  rw [← e]; exact J_callV (As := [v1, v2]) ce_221 (by rw [hm]) rfl rfl (by decide +kernel) rfl rfl hd
theorem ce_222 : (11, 252, 0, 111, 1379, 1) ∈ calL := by decide +kernel
theorem c_222 {O : pO} {j n0 : Nat} {Q : pQ} {pc : Nat} {L : pL} {S : List pv} {n : Nat} {M : pM} {b : Nat} {v1 : pv} (hm : mO j = 11) (hd : decode (mB j) pc = .ok (.invokevirtual 252, 3)) : J O j n0 Q pc L (v1 :: vr (b + 1) :: S) n M = (ob n b = 8 ∧ stk S ≤ 8 ∧ mo O 111 [vr (b + 1), v1] n M (kI O j n0 Q (pc + 3) L S n)) := by
  have e : kR (mR 111) O j n0 Q (pc + 3) L S n = kI O j n0 Q (pc + 3) L S n := kR_I (Or.inl rfl)
  rw [← e]; exact J_callV (As := [v1]) ce_222 (by rw [hm]) rfl rfl (by decide +kernel) rfl rfl hd
theorem ce_223 : (8, 110, 0, 112, 1383, 0) ∈ calL := by decide +kernel
theorem c_223 {O : pO} {j n0 : Nat} {Q : pQ} {pc : Nat} {L : pL} {S : List pv} {n : Nat} {M : pM} {b : Nat} {v1 v2 v3 : pv} (hm : mO j = 8) (hd : decode (mB j) pc = .ok (.invokevirtual 110, 3)) : J O j n0 Q pc L (v3 :: v2 :: v1 :: vr (b + 1) :: S) n M = (ob n b = 8 ∧ stk S ≤ 8 ∧ mo O 112 [vr (b + 1), v1, v2, v3] n M (kI O j n0 Q (pc + 3) L S n)) := by
  have e : kR (mR 112) O j n0 Q (pc + 3) L S n = kI O j n0 Q (pc + 3) L S n := kR_I (Or.inr (Or.inl rfl))
  rw [← e]; exact J_callV (As := [v1, v2, v3]) ce_223 (by rw [hm]) rfl rfl (by decide +kernel) rfl rfl hd
theorem ce_224 : (8, 114, 0, 110, 1387, 0) ∈ calL := by decide +kernel
theorem c_224 {O : pO} {j n0 : Nat} {Q : pQ} {pc : Nat} {L : pL} {S : List pv} {n : Nat} {M : pM} {b : Nat} {v1 : pv} (hm : mO j = 8) (hd : decode (mB j) pc = .ok (.invokevirtual 114, 3)) : J O j n0 Q pc L (v1 :: vr (b + 1) :: S) n M = (ob n b = 8 ∧ stk S ≤ 8 ∧ mo O 110 [vr (b + 1), v1] n M (kI O j n0 Q (pc + 3) L S n)) := by
  have e : kR (mR 110) O j n0 Q (pc + 3) L S n = kI O j n0 Q (pc + 3) L S n := kR_I (Or.inl rfl)
  rw [← e]; exact J_callV (As := [v1]) ce_224 (by rw [hm]) rfl rfl (by decide +kernel) rfl rfl hd
theorem ce_225 : (13, 121, 0, 153, 1388, 0) ∈ calL := by decide +kernel
theorem c_225 {O : pO} {j n0 : Nat} {Q : pQ} {pc : Nat} {L : pL} {S : List pv} {n : Nat} {M : pM} {b : Nat} {v1 v2 : pv} (hm : mO j = 13) (hd : decode (mB j) pc = .ok (.invokevirtual 121, 3)) : J O j n0 Q pc L (v2 :: v1 :: vr (b + 1) :: S) n M = (ob n b = 11 ∧ stk S ≤ 8 ∧ mo O 153 [vr (b + 1), v1, v2] n M (kI O j n0 Q (pc + 3) L S n)) := by
  have e : kR (mR 153) O j n0 Q (pc + 3) L S n = kI O j n0 Q (pc + 3) L S n := kR_I (Or.inl rfl)
  rw [← e]; exact J_callV (As := [v1, v2]) ce_225 (by rw [hm]) rfl rfl (by decide +kernel) rfl rfl hd
theorem ce_226 : (11, 258, 0, 79, 1392, 1) ∈ calL := by decide +kernel
theorem c_226 {O : pO} {j n0 : Nat} {Q : pQ} {pc : Nat} {L : pL} {S : List pv} {n : Nat} {M : pM} {b : Nat} {v1 v2 v3 v4 v5 : pv} (hm : mO j = 11) (hd : decode (mB j) pc = .ok (.invokevirtual 258, 3)) : J O j n0 Q pc L (v5 :: v4 :: v3 :: v2 :: v1 :: vr (b + 1) :: S) n M = (ob n b = 6 ∧ stk S ≤ 8 ∧ mo O 79 [vr (b + 1), v1, v2, v3, v4, v5] n M (kV O j n0 Q (pc + 3) L S n)) := by
  have e : kR (mR 79) O j n0 Q (pc + 3) L S n = kV O j n0 Q (pc + 3) L S n := kR_V
  rw [← e]; exact J_callV (As := [v1, v2, v3, v4, v5]) ce_226 (by rw [hm]) rfl rfl (by decide +kernel) rfl rfl hd
theorem ce_227 : (6, 21, 0, 99, 1396, 1) ∈ calL := by decide +kernel
theorem c_227 {O : pO} {j n0 : Nat} {Q : pQ} {pc : Nat} {L : pL} {S : List pv} {n : Nat} {M : pM} {b : Nat} {v1 v2 v3 : pv} (hm : mO j = 6) (hd : decode (mB j) pc = .ok (.invokevirtual 21, 3)) : J O j n0 Q pc L (v3 :: v2 :: v1 :: vr (b + 1) :: S) n M = (ob n b = 8 ∧ stk S ≤ 8 ∧ mo O 99 [vr (b + 1), v1, v2, v3] n M (kV O j n0 Q (pc + 3) L S n)) := by
  have e : kR (mR 99) O j n0 Q (pc + 3) L S n = kV O j n0 Q (pc + 3) L S n := kR_V
  rw [← e]; exact J_callV (As := [v1, v2, v3]) ce_227 (by rw [hm]) rfl rfl (by decide +kernel) rfl rfl hd
theorem ce_228 : (6, 27, 0, 101, 1397, 1) ∈ calL := by decide +kernel
theorem c_228 {O : pO} {j n0 : Nat} {Q : pQ} {pc : Nat} {L : pL} {S : List pv} {n : Nat} {M : pM} {b : Nat} {v1 : pv} (hm : mO j = 6) (hd : decode (mB j) pc = .ok (.invokevirtual 27, 3)) : J O j n0 Q pc L (v1 :: vr (b + 1) :: S) n M = (ob n b = 8 ∧ stk S ≤ 8 ∧ mo O 101 [vr (b + 1), v1] n M (kV O j n0 Q (pc + 3) L S n)) := by
  have e : kR (mR 101) O j n0 Q (pc + 3) L S n = kV O j n0 Q (pc + 3) L S n := kR_V
  rw [← e]; exact J_callV (As := [v1]) ce_228 (by rw [hm]) rfl rfl (by decide +kernel) rfl rfl hd
theorem ce_229 : (6, 31, 0, 104, 1398, 1) ∈ calL := by decide +kernel
theorem c_229 {O : pO} {j n0 : Nat} {Q : pQ} {pc : Nat} {L : pL} {S : List pv} {n : Nat} {M : pM} {b : Nat} {v1 : pv} (hm : mO j = 6) (hd : decode (mB j) pc = .ok (.invokevirtual 31, 3)) : J O j n0 Q pc L (v1 :: vr (b + 1) :: S) n M = (ob n b = 8 ∧ stk S ≤ 8 ∧ mo O 104 [vr (b + 1), v1] n M (kI O j n0 Q (pc + 3) L S n)) := by
  have e : kR (mR 104) O j n0 Q (pc + 3) L S n = kI O j n0 Q (pc + 3) L S n := kR_I (Or.inl rfl)
  rw [← e]; exact J_callV (As := [v1]) ce_229 (by rw [hm]) rfl rfl (by decide +kernel) rfl rfl hd
theorem ce_230 : (6, 35, 0, 109, 1399, 1) ∈ calL := by decide +kernel
theorem c_230 {O : pO} {j n0 : Nat} {Q : pQ} {pc : Nat} {L : pL} {S : List pv} {n : Nat} {M : pM} {b : Nat} {v1 : pv} (hm : mO j = 6) (hd : decode (mB j) pc = .ok (.invokevirtual 35, 3)) : J O j n0 Q pc L (v1 :: vr (b + 1) :: S) n M = (ob n b = 8 ∧ stk S ≤ 8 ∧ mo O 109 [vr (b + 1), v1] n M (kI O j n0 Q (pc + 3) L S n)) := by
  have e : kR (mR 109) O j n0 Q (pc + 3) L S n = kI O j n0 Q (pc + 3) L S n := kR_I (Or.inl rfl)
  rw [← e]; exact J_callV (As := [v1]) ce_230 (by rw [hm]) rfl rfl (by decide +kernel) rfl rfl hd
theorem ce_231 : (6, 38, 0, 107, 1400, 1) ∈ calL := by decide +kernel
theorem c_231 {O : pO} {j n0 : Nat} {Q : pQ} {pc : Nat} {L : pL} {S : List pv} {n : Nat} {M : pM} {b : Nat} {v1 : pv} (hm : mO j = 6) (hd : decode (mB j) pc = .ok (.invokevirtual 38, 3)) : J O j n0 Q pc L (v1 :: vr (b + 1) :: S) n M = (ob n b = 8 ∧ stk S ≤ 8 ∧ mo O 107 [vr (b + 1), v1] n M (kI O j n0 Q (pc + 3) L S n)) := by
  have e : kR (mR 107) O j n0 Q (pc + 3) L S n = kI O j n0 Q (pc + 3) L S n := kR_I (Or.inl rfl)
  rw [← e]; exact J_callV (As := [v1]) ce_231 (by rw [hm]) rfl rfl (by decide +kernel) rfl rfl hd
theorem ce_232 : (6, 41, 0, 110, 1401, 1) ∈ calL := by decide +kernel
theorem c_232 {O : pO} {j n0 : Nat} {Q : pQ} {pc : Nat} {L : pL} {S : List pv} {n : Nat} {M : pM} {b : Nat} {v1 : pv} (hm : mO j = 6) (hd : decode (mB j) pc = .ok (.invokevirtual 41, 3)) : J O j n0 Q pc L (v1 :: vr (b + 1) :: S) n M = (ob n b = 8 ∧ stk S ≤ 8 ∧ mo O 110 [vr (b + 1), v1] n M (kI O j n0 Q (pc + 3) L S n)) := by
  have e : kR (mR 110) O j n0 Q (pc + 3) L S n = kI O j n0 Q (pc + 3) L S n := kR_I (Or.inl rfl)
  rw [← e]; exact J_callV (As := [v1]) ce_232 (by rw [hm]) rfl rfl (by decide +kernel) rfl rfl hd
theorem ce_233 : (6, 45, 1, 295, 1402, 0) ∈ calL := by decide +kernel
theorem c_233 {O : pO} {j n0 : Nat} {Q : pQ} {pc : Nat} {L : pL} {S : List pv} {n : Nat} {M : pM} {v1 : pv} (hm : mO j = 6) (hd : decode (mB j) pc = .ok (.invokestatic 45, 3)) : J O j n0 Q pc L (v1 :: S) n M = (stk S ≤ 8 ∧ mo O 295 [v1] n M (kI O j n0 Q (pc + 3) L S n)) := by
  have e : kR (mR 295) O j n0 Q (pc + 3) L S n = kI O j n0 Q (pc + 3) L S n := kR_I (Or.inl rfl)
  rw [← e]; exact J_callS (As := [v1]) ce_233 (by rw [hm]) rfl rfl (by decide +kernel) rfl rfl hd
theorem ce_234 : (6, 57, 0, 51, 1408, 1) ∈ calL := by decide +kernel
theorem c_234 {O : pO} {j n0 : Nat} {Q : pQ} {pc : Nat} {L : pL} {S : List pv} {n : Nat} {M : pM} {b : Nat} {v1 : pv} (hm : mO j = 6) (hd : decode (mB j) pc = .ok (.invokevirtual 57, 3)) : J O j n0 Q pc L (v1 :: vr (b + 1) :: S) n M = (ob n b = 4 ∧ stk S ≤ 8 ∧ mo O 51 [vr (b + 1), v1] n M (kI O j n0 Q (pc + 3) L S n)) := by
  have e : kR (mR 51) O j n0 Q (pc + 3) L S n = kI O j n0 Q (pc + 3) L S n := kR_I (Or.inl rfl)
  rw [← e]; exact J_callV (As := [v1]) ce_234 (by rw [hm]) rfl rfl (by decide +kernel) rfl rfl hd
theorem ce_235 : (4, 66, 0, 49, 1412, 0) ∈ calL := by decide +kernel
theorem c_235 {O : pO} {j n0 : Nat} {Q : pQ} {pc : Nat} {L : pL} {S : List pv} {n : Nat} {M : pM} {b : Nat} {v1 : pv} (hm : mO j = 4) (hd : decode (mB j) pc = .ok (.invokevirtual 66, 3)) : J O j n0 Q pc L (v1 :: vr (b + 1) :: S) n M = (ob n b = 4 ∧ stk S ≤ 8 ∧ mo O 49 [vr (b + 1), v1] n M (kI O j n0 Q (pc + 3) L S n)) := by
  have e : kR (mR 49) O j n0 Q (pc + 3) L S n = kI O j n0 Q (pc + 3) L S n := kR_I (Or.inr (Or.inl rfl))
  rw [← e]; exact J_callV (As := [v1]) ce_235 (by rw [hm]) rfl rfl (by decide +kernel) rfl rfl hd
theorem ce_236 : (6, 62, 1, 298, 1413, 0) ∈ calL := by decide +kernel
theorem c_236 {O : pO} {j n0 : Nat} {Q : pQ} {pc : Nat} {L : pL} {S : List pv} {n : Nat} {M : pM} {a b : Int} (hm : mO j = 6) (hd : decode (mB j) pc = .ok (.invokestatic 62, 3)) : J O j n0 Q pc L (vi b :: vi a :: S) n M = (stk S ≤ 8 ∧ J O j n0 Q (pc + 3) L (vi (if a < b then b else a) :: S) n M) := J_max ce_236 (by rw [hm]) rfl (by decide +kernel) hd
theorem ce_237 : (6, 68, 0, 105, 1414, 1) ∈ calL := by decide +kernel
theorem c_237 {O : pO} {j n0 : Nat} {Q : pQ} {pc : Nat} {L : pL} {S : List pv} {n : Nat} {M : pM} {b : Nat} {v1 : pv} (hm : mO j = 6) (hd : decode (mB j) pc = .ok (.invokevirtual 68, 3)) : J O j n0 Q pc L (v1 :: vr (b + 1) :: S) n M = (ob n b = 8 ∧ stk S ≤ 8 ∧ mo O 105 [vr (b + 1), v1] n M (kI O j n0 Q (pc + 3) L S n)) := by
  have e : kR (mR 105) O j n0 Q (pc + 3) L S n = kI O j n0 Q (pc + 3) L S n := kR_I (Or.inr (Or.inl rfl))
  rw [← e]; exact J_callV (As := [v1]) ce_237 (by rw [hm]) rfl rfl (by decide +kernel) rfl rfl hd
theorem ce_238 : (11, 262, 0, 80, 1415, 1) ∈ calL := by decide +kernel
theorem c_238 {O : pO} {j n0 : Nat} {Q : pQ} {pc : Nat} {L : pL} {S : List pv} {n : Nat} {M : pM} {b : Nat} {v1 v2 : pv} (hm : mO j = 11) (hd : decode (mB j) pc = .ok (.invokevirtual 262, 3)) : J O j n0 Q pc L (v2 :: v1 :: vr (b + 1) :: S) n M = (ob n b = 6 ∧ stk S ≤ 8 ∧ mo O 80 [vr (b + 1), v1, v2] n M (kI O j n0 Q (pc + 3) L S n)) := by
  have e : kR (mR 80) O j n0 Q (pc + 3) L S n = kI O j n0 Q (pc + 3) L S n := kR_I (Or.inl rfl)
  rw [← e]; exact J_callV (As := [v1, v2]) ce_238 (by rw [hm]) rfl rfl (by decide +kernel) rfl rfl hd
theorem ce_239 : (6, 72, 0, 45, 1419, 1) ∈ calL := by decide +kernel
theorem c_239 {O : pO} {j n0 : Nat} {Q : pQ} {pc : Nat} {L : pL} {S : List pv} {n : Nat} {M : pM} {b : Nat} {v1 v2 : pv} (hm : mO j = 6) (hd : decode (mB j) pc = .ok (.invokevirtual 72, 3)) : J O j n0 Q pc L (v2 :: v1 :: vr (b + 1) :: S) n M = (ob n b = 3 ∧ stk S ≤ 8 ∧ mo O 45 [vr (b + 1), v1, v2] n M (kI O j n0 Q (pc + 3) L S n)) := by
  have e : kR (mR 45) O j n0 Q (pc + 3) L S n = kI O j n0 Q (pc + 3) L S n := kR_I (Or.inl rfl)
  rw [← e]; exact J_callV (As := [v1, v2]) ce_239 (by rw [hm]) rfl rfl (by decide +kernel) rfl rfl hd
theorem ce_240 : (3, 92, 1, 46, 1423, 0) ∈ calL := by decide +kernel
theorem c_240 {O : pO} {j n0 : Nat} {Q : pQ} {pc : Nat} {L : pL} {S : List pv} {n : Nat} {M : pM} {v1 v2 v3 : pv} (hm : mO j = 3) (hd : decode (mB j) pc = .ok (.invokestatic 92, 3)) : J O j n0 Q pc L (v3 :: v2 :: v1 :: S) n M = (stk S ≤ 8 ∧ mo O 46 [v1, v2, v3] n M (kI O j n0 Q (pc + 3) L S n)) := by
  have e : kR (mR 46) O j n0 Q (pc + 3) L S n = kI O j n0 Q (pc + 3) L S n := kR_I (Or.inl rfl)
  rw [← e]; exact J_callS (As := [v1, v2, v3]) ce_240 (by rw [hm]) rfl rfl (by decide +kernel) rfl rfl hd
theorem ce_241 : (13, 125, 0, 154, 1426, 0) ∈ calL := by decide +kernel
theorem c_241 {O : pO} {j n0 : Nat} {Q : pQ} {pc : Nat} {L : pL} {S : List pv} {n : Nat} {M : pM} {b : Nat} {v1 v2 : pv} (hm : mO j = 13) (hd : decode (mB j) pc = .ok (.invokevirtual 125, 3)) : J O j n0 Q pc L (v2 :: v1 :: vr (b + 1) :: S) n M = (ob n b = 11 ∧ stk S ≤ 8 ∧ mo O 154 [vr (b + 1), v1, v2] n M (kI O j n0 Q (pc + 3) L S n)) := by
  have e : kR (mR 154) O j n0 Q (pc + 3) L S n = kI O j n0 Q (pc + 3) L S n := kR_I (Or.inl rfl)
  rw [← e]; exact J_callV (As := [v1, v2]) ce_241 (by rw [hm]) rfl rfl (by decide +kernel) rfl rfl hd
theorem ce_242 : (11, 269, 0, 81, 1430, 1) ∈ calL := by decide +kernel
theorem c_242 {O : pO} {j n0 : Nat} {Q : pQ} {pc : Nat} {L : pL} {S : List pv} {n : Nat} {M : pM} {b : Nat} {v1 v2 v3 : pv} (hm : mO j = 11) (hd : decode (mB j) pc = .ok (.invokevirtual 269, 3)) : J O j n0 Q pc L (v3 :: v2 :: v1 :: vr (b + 1) :: S) n M = (ob n b = 6 ∧ stk S ≤ 8 ∧ mo O 81 [vr (b + 1), v1, v2, v3] n M (kI O j n0 Q (pc + 3) L S n)) := by
  have e : kR (mR 81) O j n0 Q (pc + 3) L S n = kI O j n0 Q (pc + 3) L S n := kR_I (Or.inl rfl)
  rw [← e]; exact J_callV (As := [v1, v2, v3]) ce_242 (by rw [hm]) rfl rfl (by decide +kernel) rfl rfl hd
theorem ce_243 : (6, 78, 0, 80, 1434, 0) ∈ calL := by decide +kernel
theorem c_243 {O : pO} {j n0 : Nat} {Q : pQ} {pc : Nat} {L : pL} {S : List pv} {n : Nat} {M : pM} {b : Nat} {v1 v2 : pv} (hm : mO j = 6) (hd : decode (mB j) pc = .ok (.invokevirtual 78, 3)) : J O j n0 Q pc L (v2 :: v1 :: vr (b + 1) :: S) n M = (ob n b = 6 ∧ stk S ≤ 8 ∧ mo O 80 [vr (b + 1), v1, v2] n M (kI O j n0 Q (pc + 3) L S n)) := by
  have e : kR (mR 80) O j n0 Q (pc + 3) L S n = kI O j n0 Q (pc + 3) L S n := kR_I (Or.inl rfl)
  rw [← e]; exact J_callV (As := [v1, v2]) ce_243 (by rw [hm]) rfl rfl (by decide +kernel) rfl rfl hd
theorem ce_244 : (13, 129, 0, 155, 1435, 0) ∈ calL := by decide +kernel
theorem c_244 {O : pO} {j n0 : Nat} {Q : pQ} {pc : Nat} {L : pL} {S : List pv} {n : Nat} {M : pM} {b : Nat} {v1 : pv} (hm : mO j = 13) (hd : decode (mB j) pc = .ok (.invokevirtual 129, 3)) : J O j n0 Q pc L (v1 :: vr (b + 1) :: S) n M = (ob n b = 11 ∧ stk S ≤ 8 ∧ mo O 155 [vr (b + 1), v1] n M (kI O j n0 Q (pc + 3) L S n)) := by
  have e : kR (mR 155) O j n0 Q (pc + 3) L S n = kI O j n0 Q (pc + 3) L S n := kR_I (Or.inl rfl)
  rw [← e]; exact J_callV (As := [v1]) ce_244 (by rw [hm]) rfl rfl (by decide +kernel) rfl rfl hd
theorem ce_245 : (11, 273, 0, 123, 1439, 1) ∈ calL := by decide +kernel
theorem c_245 {O : pO} {j n0 : Nat} {Q : pQ} {pc : Nat} {L : pL} {S : List pv} {n : Nat} {M : pM} {b : Nat} {v1 : pv} (hm : mO j = 11) (hd : decode (mB j) pc = .ok (.invokevirtual 273, 3)) : J O j n0 Q pc L (v1 :: vr (b + 1) :: S) n M = (ob n b = 10 ∧ stk S ≤ 8 ∧ mo O 123 [vr (b + 1), v1] n M (kI O j n0 Q (pc + 3) L S n)) := by
  have e : kR (mR 123) O j n0 Q (pc + 3) L S n = kI O j n0 Q (pc + 3) L S n := kR_I (Or.inl rfl)
  rw [← e]; exact J_callV (As := [v1]) ce_245 (by rw [hm]) rfl rfl (by decide +kernel) rfl rfl hd
theorem ce_246 : (13, 133, 0, 156, 1443, 0) ∈ calL := by decide +kernel
theorem c_246 {O : pO} {j n0 : Nat} {Q : pQ} {pc : Nat} {L : pL} {S : List pv} {n : Nat} {M : pM} {b : Nat} (hm : mO j = 13) (hd : decode (mB j) pc = .ok (.invokevirtual 133, 3)) : J O j n0 Q pc L (vr (b + 1) :: S) n M = (ob n b = 11 ∧ stk S ≤ 8 ∧ mo O 156 [vr (b + 1)] n M (kI O j n0 Q (pc + 3) L S n)) := by
  have e : kR (mR 156) O j n0 Q (pc + 3) L S n = kI O j n0 Q (pc + 3) L S n := kR_I (Or.inl rfl)
  rw [← e]; exact J_callV (As := []) ce_246 (by rw [hm]) rfl rfl (by decide +kernel) rfl rfl hd
theorem ce_247 : (13, 137, 0, 157, 1447, 0) ∈ calL := by decide +kernel
theorem c_247 {O : pO} {j n0 : Nat} {Q : pQ} {pc : Nat} {L : pL} {S : List pv} {n : Nat} {M : pM} {b : Nat} {v1 v2 : pv} (hm : mO j = 13) (hd : decode (mB j) pc = .ok (.invokevirtual 137, 3)) : J O j n0 Q pc L (v2 :: v1 :: vr (b + 1) :: S) n M = (ob n b = 11 ∧ stk S ≤ 8 ∧ mo O 157 [vr (b + 1), v1, v2] n M (kI O j n0 Q (pc + 3) L S n)) := by
  have e : kR (mR 157) O j n0 Q (pc + 3) L S n = kI O j n0 Q (pc + 3) L S n := kR_I (Or.inl rfl)
  rw [← e]; exact J_callV (As := [v1, v2]) ce_247 (by rw [hm]) rfl rfl (by decide +kernel) rfl rfl hd
theorem ce_248 : (11, 276, 0, 124, 1451, 1) ∈ calL := by decide +kernel
theorem c_248 {O : pO} {j n0 : Nat} {Q : pQ} {pc : Nat} {L : pL} {S : List pv} {n : Nat} {M : pM} {b : Nat} {v1 v2 v3 : pv} (hm : mO j = 11) (hd : decode (mB j) pc = .ok (.invokevirtual 276, 3)) : J O j n0 Q pc L (v3 :: v2 :: v1 :: vr (b + 1) :: S) n M = (ob n b = 10 ∧ stk S ≤ 8 ∧ mo O 124 [vr (b + 1), v1, v2, v3] n M (kI O j n0 Q (pc + 3) L S n)) := by
  have e : kR (mR 124) O j n0 Q (pc + 3) L S n = kI O j n0 Q (pc + 3) L S n := kR_I (Or.inl rfl)
  rw [← e]; exact J_callV (As := [v1, v2, v3]) ce_248 (by rw [hm]) rfl rfl (by decide +kernel) rfl rfl hd
theorem ce_249 : (10, 31, 0, 125, 1455, 0) ∈ calL := by decide +kernel
theorem c_249 {O : pO} {j n0 : Nat} {Q : pQ} {pc : Nat} {L : pL} {S : List pv} {n : Nat} {M : pM} {b : Nat} {v1 v2 : pv} (hm : mO j = 10) (hd : decode (mB j) pc = .ok (.invokevirtual 31, 3)) : J O j n0 Q pc L (v2 :: v1 :: vr (b + 1) :: S) n M = (ob n b = 10 ∧ stk S ≤ 8 ∧ mo O 125 [vr (b + 1), v1, v2] n M (kV O j n0 Q (pc + 3) L S n)) := by
  have e : kR (mR 125) O j n0 Q (pc + 3) L S n = kV O j n0 Q (pc + 3) L S n := kR_V
  rw [← e]; exact J_callV (As := [v1, v2]) ce_249 (by rw [hm]) rfl rfl (by decide +kernel) rfl rfl hd
theorem ce_250 : (10, 36, 1, 322, 1460, 0) ∈ calL := by decide +kernel
theorem c_250 {O : pO} {j n0 : Nat} {Q : pQ} {pc : Nat} {L : pL} {S : List pv} {n : Nat} {M : pM} {v1 v2 : pv} (hm : mO j = 10) (hd : decode (mB j) pc = .ok (.invokestatic 36, 3)) : J O j n0 Q pc L (v2 :: v1 :: S) n M = (stk S ≤ 8 ∧ mo O 322 [v1, v2] n M (kV O j n0 Q (pc + 3) L S n)) := by
  have e : kR (mR 322) O j n0 Q (pc + 3) L S n = kV O j n0 Q (pc + 3) L S n := kR_V
  rw [← e]; exact J_callS (As := [v1, v2]) ce_250 (by rw [hm]) rfl rfl (by decide +kernel) rfl rfl hd
theorem ce_251 : (13, 141, 0, 158, 1461, 0) ∈ calL := by decide +kernel
theorem c_251 {O : pO} {j n0 : Nat} {Q : pQ} {pc : Nat} {L : pL} {S : List pv} {n : Nat} {M : pM} {b : Nat} {v1 v2 : pv} (hm : mO j = 13) (hd : decode (mB j) pc = .ok (.invokevirtual 141, 3)) : J O j n0 Q pc L (v2 :: v1 :: vr (b + 1) :: S) n M = (ob n b = 11 ∧ stk S ≤ 8 ∧ mo O 158 [vr (b + 1), v1, v2] n M (kI O j n0 Q (pc + 3) L S n)) := by
  have e : kR (mR 158) O j n0 Q (pc + 3) L S n = kI O j n0 Q (pc + 3) L S n := kR_I (Or.inl rfl)
  rw [← e]; exact J_callV (As := [v1, v2]) ce_251 (by rw [hm]) rfl rfl (by decide +kernel) rfl rfl hd
theorem ce_252 : (11, 280, 0, 166, 1465, 0) ∈ calL := by decide +kernel
theorem c_252 {O : pO} {j n0 : Nat} {Q : pQ} {pc : Nat} {L : pL} {S : List pv} {n : Nat} {M : pM} {b : Nat} {v1 v2 : pv} (hm : mO j = 11) (hd : decode (mB j) pc = .ok (.invokevirtual 280, 3)) : J O j n0 Q pc L (v2 :: v1 :: vr (b + 1) :: S) n M = (ob n b = 11 ∧ stk S ≤ 8 ∧ mo O 166 [vr (b + 1), v1, v2] n M (kI O j n0 Q (pc + 3) L S n)) := by
  have e : kR (mR 166) O j n0 Q (pc + 3) L S n = kI O j n0 Q (pc + 3) L S n := kR_I (Or.inr (Or.inl rfl))
  rw [← e]; exact J_callV (As := [v1, v2]) ce_252 (by rw [hm]) rfl rfl (by decide +kernel) rfl rfl hd
theorem ce_253 : (11, 337, 0, 126, 1469, 1) ∈ calL := by decide +kernel
theorem c_253 {O : pO} {j n0 : Nat} {Q : pQ} {pc : Nat} {L : pL} {S : List pv} {n : Nat} {M : pM} {b : Nat} {v1 v2 v3 : pv} (hm : mO j = 11) (hd : decode (mB j) pc = .ok (.invokevirtual 337, 3)) : J O j n0 Q pc L (v3 :: v2 :: v1 :: vr (b + 1) :: S) n M = (ob n b = 10 ∧ stk S ≤ 8 ∧ mo O 126 [vr (b + 1), v1, v2, v3] n M (kI O j n0 Q (pc + 3) L S n)) := by
  have e : kR (mR 126) O j n0 Q (pc + 3) L S n = kI O j n0 Q (pc + 3) L S n := kR_I (Or.inr (Or.inl rfl))
  rw [← e]; exact J_callV (As := [v1, v2, v3]) ce_253 (by rw [hm]) rfl rfl (by decide +kernel) rfl rfl hd
theorem ce_254 : (10, 53, 0, 127, 1473, 0) ∈ calL := by decide +kernel
theorem c_254 {O : pO} {j n0 : Nat} {Q : pQ} {pc : Nat} {L : pL} {S : List pv} {n : Nat} {M : pM} {b : Nat} {v1 v2 v3 : pv} (hm : mO j = 10) (hd : decode (mB j) pc = .ok (.invokevirtual 53, 3)) : J O j n0 Q pc L (v3 :: v2 :: v1 :: vr (b + 1) :: S) n M = (ob n b = 10 ∧ stk S ≤ 8 ∧ mo O 127 [vr (b + 1), v1, v2, v3] n M (kV O j n0 Q (pc + 3) L S n)) := by
  have e : kR (mR 127) O j n0 Q (pc + 3) L S n = kV O j n0 Q (pc + 3) L S n := kR_V
  rw [← e]; exact J_callV (As := [v1, v2, v3]) ce_254 (by rw [hm]) rfl rfl (by decide +kernel) rfl rfl hd
theorem ce_255 : (10, 63, 1, 298, 1480, 0) ∈ calL := by decide +kernel
theorem c_255 {O : pO} {j n0 : Nat} {Q : pQ} {pc : Nat} {L : pL} {S : List pv} {n : Nat} {M : pM} {a b : Int} (hm : mO j = 10) (hd : decode (mB j) pc = .ok (.invokestatic 63, 3)) : J O j n0 Q pc L (vi b :: vi a :: S) n M = (stk S ≤ 8 ∧ J O j n0 Q (pc + 3) L (vi (if a < b then b else a) :: S) n M) := J_max ce_255 (by rw [hm]) rfl (by decide +kernel) hd
theorem ce_256 : (13, 145, 0, 159, 1481, 0) ∈ calL := by decide +kernel
theorem c_256 {O : pO} {j n0 : Nat} {Q : pQ} {pc : Nat} {L : pL} {S : List pv} {n : Nat} {M : pM} {b : Nat} {v1 v2 v3 : pv} (hm : mO j = 13) (hd : decode (mB j) pc = .ok (.invokevirtual 145, 3)) : J O j n0 Q pc L (v3 :: v2 :: v1 :: vr (b + 1) :: S) n M = (ob n b = 11 ∧ stk S ≤ 8 ∧ mo O 159 [vr (b + 1), v1, v2, v3] n M (kI O j n0 Q (pc + 3) L S n)) := by
  have e : kR (mR 159) O j n0 Q (pc + 3) L S n = kI O j n0 Q (pc + 3) L S n := kR_I (Or.inl rfl)
  rw [← e]; exact J_callV (As := [v1, v2, v3]) ce_256 (by rw [hm]) rfl rfl (by decide +kernel) rfl rfl hd
theorem ce_257 : (13, 149, 0, 160, 1485, 0) ∈ calL := by decide +kernel
theorem c_257 {O : pO} {j n0 : Nat} {Q : pQ} {pc : Nat} {L : pL} {S : List pv} {n : Nat} {M : pM} {b : Nat} {v1 : pv} (hm : mO j = 13) (hd : decode (mB j) pc = .ok (.invokevirtual 149, 3)) : J O j n0 Q pc L (v1 :: vr (b + 1) :: S) n M = (ob n b = 11 ∧ stk S ≤ 8 ∧ mo O 160 [vr (b + 1), v1] n M (kI O j n0 Q (pc + 3) L S n)) := by
  have e : kR (mR 160) O j n0 Q (pc + 3) L S n = kI O j n0 Q (pc + 3) L S n := kR_I (Or.inl rfl)
  rw [← e]; exact J_callV (As := [v1]) ce_257 (by rw [hm]) rfl rfl (by decide +kernel) rfl rfl hd
theorem ce_258 : (11, 298, 1, 296, 1489, 0) ∈ calL := by decide +kernel
theorem c_258 {O : pO} {j n0 : Nat} {Q : pQ} {pc : Nat} {L : pL} {S : List pv} {n : Nat} {M : pM} {v1 : pv} (hm : mO j = 11) (hd : decode (mB j) pc = .ok (.invokestatic 298, 3)) : J O j n0 Q pc L (v1 :: S) n M = (stk S ≤ 8 ∧ mo O 296 [v1] n M (kI O j n0 Q (pc + 3) L S n)) := by
  have e : kR (mR 296) O j n0 Q (pc + 3) L S n = kI O j n0 Q (pc + 3) L S n := kR_I (Or.inl rfl)
  rw [← e]; exact J_callS (As := [v1]) ce_258 (by rw [hm]) rfl rfl (by decide +kernel) rfl rfl hd
theorem ce_259 : (13, 12, 2, 188, 1492, 0) ∈ calL := by decide +kernel
theorem c_259 {O : pO} {j n0 : Nat} {Q : pQ} {pc : Nat} {L : pL} {S : List pv} {n : Nat} {M : pM} {b : Nat} (hm : mO j = 13) (hd : decode (mB j) pc = .ok (.invokespecial 12, 3)) : J O j n0 Q pc L (vr (b + 1) :: S) n M = (ob n b = 12 ∧ stk S ≤ 8 ∧ n + 57 ≤ n0 + mC j ∧ mo O 188 [vr (b + 1)] n M (kV O j n0 Q (pc + 3) L S (n + 57))) := J_callE (As := []) ce_259 (by rw [hm]) rfl rfl rfl rfl (by rw [hm]; decide +kernel) hd
theorem ce_260 : (12, 313, 0, 187, 1498, 0) ∈ calL := by decide +kernel
theorem c_260 {O : pO} {j n0 : Nat} {Q : pQ} {pc : Nat} {L : pL} {S : List pv} {n : Nat} {M : pM} {b : Nat} (hm : mO j = 12) (hd : decode (mB j) pc = .ok (.invokevirtual 313, 3)) : J O j n0 Q pc L (vr (b + 1) :: S) n M = (ob n b = 12 ∧ stk S ≤ 8 ∧ mo O 187 [vr (b + 1)] n M (kV O j n0 Q (pc + 3) L S n)) := by
  have e : kR (mR 187) O j n0 Q (pc + 3) L S n = kV O j n0 Q (pc + 3) L S n := kR_V
  rw [← e]; exact J_callV (As := []) ce_260 (by rw [hm]) rfl rfl (by decide +kernel) rfl rfl hd
theorem ce_261 : (12, 316, 0, 281, 1502, 0) ∈ calL := by decide +kernel
theorem c_261 {O : pO} {j n0 : Nat} {Q : pQ} {pc : Nat} {L : pL} {S : List pv} {n : Nat} {M : pM} {b : Nat} (hm : mO j = 12) (hd : decode (mB j) pc = .ok (.invokevirtual 316, 3)) : J O j n0 Q pc L (vr (b + 1) :: S) n M = (ob n b = 12 ∧ stk S ≤ 8 ∧ mo O 281 [vr (b + 1)] n M (kV O j n0 Q (pc + 3) L S n)) := by
  have e : kR (mR 281) O j n0 Q (pc + 3) L S n = kV O j n0 Q (pc + 3) L S n := kR_V
  rw [← e]; exact J_callV (As := []) ce_261 (by rw [hm]) rfl rfl (by decide +kernel) rfl rfl hd
theorem ce_262 : (13, 27, 0, 189, 1809, 0) ∈ calL := by decide +kernel
theorem c_262 {O : pO} {j n0 : Nat} {Q : pQ} {pc : Nat} {L : pL} {S : List pv} {n : Nat} {M : pM} {b : Nat} (hm : mO j = 13) (hd : decode (mB j) pc = .ok (.invokevirtual 27, 3)) : J O j n0 Q pc L (vr (b + 1) :: S) n M = (ob n b = 12 ∧ stk S ≤ 8 ∧ mo O 189 [vr (b + 1)] n M (kI O j n0 Q (pc + 3) L S n)) := by
  have e : kR (mR 189) O j n0 Q (pc + 3) L S n = kI O j n0 Q (pc + 3) L S n := kR_I (Or.inl rfl)
  rw [← e]; exact J_callV (As := []) ce_262 (by rw [hm]) rfl rfl (by decide +kernel) rfl rfl hd
theorem ce_263 : (12, 319, 0, 186, 1813, 0) ∈ calL := by decide +kernel
theorem c_263 {O : pO} {j n0 : Nat} {Q : pQ} {pc : Nat} {L : pL} {S : List pv} {n : Nat} {M : pM} {b : Nat} (hm : mO j = 12) (hd : decode (mB j) pc = .ok (.invokevirtual 319, 3)) : J O j n0 Q pc L (vr (b + 1) :: S) n M = (ob n b = 12 ∧ stk S ≤ 8 ∧ mo O 186 [vr (b + 1)] n M (kV O j n0 Q (pc + 3) L S n)) := by
  have e : kR (mR 186) O j n0 Q (pc + 3) L S n = kV O j n0 Q (pc + 3) L S n := kR_V
  rw [← e]; exact J_callV (As := []) ce_263 (by rw [hm]) rfl rfl (by decide +kernel) rfl rfl hd
theorem ce_264 : (12, 107, 0, 180, 1817, 0) ∈ calL := by decide +kernel
theorem c_264 {O : pO} {j n0 : Nat} {Q : pQ} {pc : Nat} {L : pL} {S : List pv} {n : Nat} {M : pM} {b : Nat} (hm : mO j = 12) (hd : decode (mB j) pc = .ok (.invokevirtual 107, 3)) : J O j n0 Q pc L (vr (b + 1) :: S) n M = (ob n b = 12 ∧ stk S ≤ 8 ∧ mo O 180 [vr (b + 1)] n M (kV O j n0 Q (pc + 3) L S n)) := by
  have e : kR (mR 180) O j n0 Q (pc + 3) L S n = kV O j n0 Q (pc + 3) L S n := kR_V
  rw [← e]; exact J_callV (As := []) ce_264 (by rw [hm]) rfl rfl (by decide +kernel) rfl rfl hd
theorem ce_265 : (12, 71, 0, 173, 1821, 0) ∈ calL := by decide +kernel
theorem c_265 {O : pO} {j n0 : Nat} {Q : pQ} {pc : Nat} {L : pL} {S : List pv} {n : Nat} {M : pM} {b : Nat} {v1 : pv} (hm : mO j = 12) (hd : decode (mB j) pc = .ok (.invokevirtual 71, 3)) : J O j n0 Q pc L (v1 :: vr (b + 1) :: S) n M = (ob n b = 12 ∧ stk S ≤ 8 ∧ mo O 173 [vr (b + 1), v1] n M (kI O j n0 Q (pc + 3) L S n)) := by
  have e : kR (mR 173) O j n0 Q (pc + 3) L S n = kI O j n0 Q (pc + 3) L S n := kR_I (Or.inl rfl)
  rw [← e]; exact J_callV (As := [v1]) ce_265 (by rw [hm]) rfl rfl (by decide +kernel) rfl rfl hd
theorem ce_266 : (12, 78, 1, 174, 1825, 0) ∈ calL := by decide +kernel
theorem c_266 {O : pO} {j n0 : Nat} {Q : pQ} {pc : Nat} {L : pL} {S : List pv} {n : Nat} {M : pM} {v1 : pv} (hm : mO j = 12) (hd : decode (mB j) pc = .ok (.invokestatic 78, 3)) : J O j n0 Q pc L (v1 :: S) n M = (stk S ≤ 8 ∧ mo O 174 [v1] n M (kI O j n0 Q (pc + 3) L S n)) := by
  have e : kR (mR 174) O j n0 Q (pc + 3) L S n = kI O j n0 Q (pc + 3) L S n := kR_I (Or.inr (Or.inl rfl))
  rw [← e]; exact J_callS (As := [v1]) ce_266 (by rw [hm]) rfl rfl (by decide +kernel) rfl rfl hd
theorem ce_267 : (12, 86, 1, 178, 1828, 0) ∈ calL := by decide +kernel
theorem c_267 {O : pO} {j n0 : Nat} {Q : pQ} {pc : Nat} {L : pL} {S : List pv} {n : Nat} {M : pM} {v1 : pv} (hm : mO j = 12) (hd : decode (mB j) pc = .ok (.invokestatic 86, 3)) : J O j n0 Q pc L (v1 :: S) n M = (stk S ≤ 8 ∧ mo O 178 [v1] n M (kI O j n0 Q (pc + 3) L S n)) := by
  have e : kR (mR 178) O j n0 Q (pc + 3) L S n = kI O j n0 Q (pc + 3) L S n := kR_I (Or.inr (Or.inl rfl))
  rw [← e]; exact J_callS (As := [v1]) ce_267 (by rw [hm]) rfl rfl (by decide +kernel) rfl rfl hd
theorem ce_268 : (12, 90, 1, 175, 1855, 0) ∈ calL := by decide +kernel
theorem c_268 {O : pO} {j n0 : Nat} {Q : pQ} {pc : Nat} {L : pL} {S : List pv} {n : Nat} {M : pM} {v1 : pv} (hm : mO j = 12) (hd : decode (mB j) pc = .ok (.invokestatic 90, 3)) : J O j n0 Q pc L (v1 :: S) n M = (stk S ≤ 8 ∧ mo O 175 [v1] n M (kI O j n0 Q (pc + 3) L S n)) := by
  have e : kR (mR 175) O j n0 Q (pc + 3) L S n = kI O j n0 Q (pc + 3) L S n := kR_I (Or.inr (Or.inl rfl))
  rw [← e]; exact J_callS (As := [v1]) ce_268 (by rw [hm]) rfl rfl (by decide +kernel) rfl rfl hd
theorem ce_269 : (12, 96, 1, 179, 1858, 0) ∈ calL := by decide +kernel
theorem c_269 {O : pO} {j n0 : Nat} {Q : pQ} {pc : Nat} {L : pL} {S : List pv} {n : Nat} {M : pM} {v1 : pv} (hm : mO j = 12) (hd : decode (mB j) pc = .ok (.invokestatic 96, 3)) : J O j n0 Q pc L (v1 :: S) n M = (stk S ≤ 8 ∧ mo O 179 [v1] n M (kI O j n0 Q (pc + 3) L S n)) := by
  have e : kR (mR 179) O j n0 Q (pc + 3) L S n = kI O j n0 Q (pc + 3) L S n := kR_I (Or.inr (Or.inl rfl))
  rw [← e]; exact J_callS (As := [v1]) ce_269 (by rw [hm]) rfl rfl (by decide +kernel) rfl rfl hd
theorem ce_270 : (12, 103, 0, 177, 1861, 0) ∈ calL := by decide +kernel
theorem c_270 {O : pO} {j n0 : Nat} {Q : pQ} {pc : Nat} {L : pL} {S : List pv} {n : Nat} {M : pM} {b : Nat} (hm : mO j = 12) (hd : decode (mB j) pc = .ok (.invokevirtual 103, 3)) : J O j n0 Q pc L (vr (b + 1) :: S) n M = (ob n b = 12 ∧ stk S ≤ 8 ∧ mo O 177 [vr (b + 1)] n M (kI O j n0 Q (pc + 3) L S n)) := by
  have e : kR (mR 177) O j n0 Q (pc + 3) L S n = kI O j n0 Q (pc + 3) L S n := kR_I (Or.inr (Or.inl rfl))
  rw [← e]; exact J_callV (As := []) ce_270 (by rw [hm]) rfl rfl (by decide +kernel) rfl rfl hd
theorem ce_271 : (12, 325, 0, 190, 1865, 0) ∈ calL := by decide +kernel
theorem c_271 {O : pO} {j n0 : Nat} {Q : pQ} {pc : Nat} {L : pL} {S : List pv} {n : Nat} {M : pM} {b : Nat} (hm : mO j = 12) (hd : decode (mB j) pc = .ok (.invokevirtual 325, 3)) : J O j n0 Q pc L (vr (b + 1) :: S) n M = (ob n b = 12 ∧ stk S ≤ 8 ∧ mo O 190 [vr (b + 1)] n M (kV O j n0 Q (pc + 3) L S n)) := by
  have e : kR (mR 190) O j n0 Q (pc + 3) L S n = kV O j n0 Q (pc + 3) L S n := kR_V
  rw [← e]; exact J_callV (As := []) ce_271 (by rw [hm]) rfl rfl (by decide +kernel) rfl rfl hd
theorem ce_272 : (12, 337, 0, 182, 1869, 0) ∈ calL := by decide +kernel
theorem c_272 {O : pO} {j n0 : Nat} {Q : pQ} {pc : Nat} {L : pL} {S : List pv} {n : Nat} {M : pM} {b : Nat} {v1 : pv} (hm : mO j = 12) (hd : decode (mB j) pc = .ok (.invokevirtual 337, 3)) : J O j n0 Q pc L (v1 :: vr (b + 1) :: S) n M = (ob n b = 12 ∧ stk S ≤ 8 ∧ mo O 182 [vr (b + 1), v1] n M (kI O j n0 Q (pc + 3) L S n)) := by
  have e : kR (mR 182) O j n0 Q (pc + 3) L S n = kI O j n0 Q (pc + 3) L S n := kR_I (Or.inr (Or.inl rfl))
  rw [← e]; exact J_callV (As := [v1]) ce_272 (by rw [hm]) rfl rfl (by decide +kernel) rfl rfl hd
theorem ce_273 : (12, 111, 0, 183, 1873, 0) ∈ calL := by decide +kernel
theorem c_273 {O : pO} {j n0 : Nat} {Q : pQ} {pc : Nat} {L : pL} {S : List pv} {n : Nat} {M : pM} {b : Nat} (hm : mO j = 12) (hd : decode (mB j) pc = .ok (.invokevirtual 111, 3)) : J O j n0 Q pc L (vr (b + 1) :: S) n M = (ob n b = 12 ∧ stk S ≤ 8 ∧ mo O 183 [vr (b + 1)] n M (kV O j n0 Q (pc + 3) L S n)) := by
  have e : kR (mR 183) O j n0 Q (pc + 3) L S n = kV O j n0 Q (pc + 3) L S n := kR_V
  rw [← e]; exact J_callV (As := []) ce_273 (by rw [hm]) rfl rfl (by decide +kernel) rfl rfl hd
theorem ce_274 : (12, 99, 0, 176, 1877, 0) ∈ calL := by decide +kernel
theorem c_274 {O : pO} {j n0 : Nat} {Q : pQ} {pc : Nat} {L : pL} {S : List pv} {n : Nat} {M : pM} {b : Nat} {v1 v2 : pv} (hm : mO j = 12) (hd : decode (mB j) pc = .ok (.invokevirtual 99, 3)) : J O j n0 Q pc L (v2 :: v1 :: vr (b + 1) :: S) n M = (ob n b = 12 ∧ stk S ≤ 8 ∧ mo O 176 [vr (b + 1), v1, v2] n M (kV O j n0 Q (pc + 3) L S n)) := by
  have e : kR (mR 176) O j n0 Q (pc + 3) L S n = kV O j n0 Q (pc + 3) L S n := kR_V
  rw [← e]; exact J_callV (As := [v1, v2]) ce_274 (by rw [hm]) rfl rfl (by decide +kernel) rfl rfl hd
theorem ce_275 : (12, 340, 0, 200, 1881, 0) ∈ calL := by decide +kernel
theorem c_275 {O : pO} {j n0 : Nat} {Q : pQ} {pc : Nat} {L : pL} {S : List pv} {n : Nat} {M : pM} {b : Nat} (hm : mO j = 12) (hd : decode (mB j) pc = .ok (.invokevirtual 340, 3)) : J O j n0 Q pc L (vr (b + 1) :: S) n M = (ob n b = 12 ∧ stk S ≤ 8 ∧ mo O 200 [vr (b + 1)] n M (kV O j n0 Q (pc + 3) L S n)) := by
  have e : kR (mR 200) O j n0 Q (pc + 3) L S n = kV O j n0 Q (pc + 3) L S n := kR_V
  rw [← e]; exact J_callV (As := []) ce_275 (by rw [hm]) rfl rfl (by decide +kernel) rfl rfl hd
theorem ce_276 : (12, 389, 0, 199, 1885, 0) ∈ calL := by decide +kernel
theorem c_276 {O : pO} {j n0 : Nat} {Q : pQ} {pc : Nat} {L : pL} {S : List pv} {n : Nat} {M : pM} {b : Nat} (hm : mO j = 12) (hd : decode (mB j) pc = .ok (.invokevirtual 389, 3)) : J O j n0 Q pc L (vr (b + 1) :: S) n M = (ob n b = 12 ∧ stk S ≤ 8 ∧ mo O 199 [vr (b + 1)] n M (kI O j n0 Q (pc + 3) L S n)) := by
  have e : kR (mR 199) O j n0 Q (pc + 3) L S n = kI O j n0 Q (pc + 3) L S n := kR_I (Or.inl rfl)
  rw [← e]; exact J_callV (As := []) ce_276 (by rw [hm]) rfl rfl (by decide +kernel) rfl rfl hd
theorem ce_277 : (12, 371, 0, 185, 1889, 0) ∈ calL := by decide +kernel
theorem c_277 {O : pO} {j n0 : Nat} {Q : pQ} {pc : Nat} {L : pL} {S : List pv} {n : Nat} {M : pM} {b : Nat} {v1 v2 : pv} (hm : mO j = 12) (hd : decode (mB j) pc = .ok (.invokevirtual 371, 3)) : J O j n0 Q pc L (v2 :: v1 :: vr (b + 1) :: S) n M = (ob n b = 12 ∧ stk S ≤ 8 ∧ mo O 185 [vr (b + 1), v1, v2] n M (kI O j n0 Q (pc + 3) L S n)) := by
  have e : kR (mR 185) O j n0 Q (pc + 3) L S n = kI O j n0 Q (pc + 3) L S n := kR_I (Or.inl rfl)
  rw [← e]; exact J_callV (As := [v1, v2]) ce_277 (by rw [hm]) rfl rfl (by decide +kernel) rfl rfl hd
theorem ce_278 : (12, 367, 0, 184, 1893, 0) ∈ calL := by decide +kernel
theorem c_278 {O : pO} {j n0 : Nat} {Q : pQ} {pc : Nat} {L : pL} {S : List pv} {n : Nat} {M : pM} {b : Nat} {v1 : pv} (hm : mO j = 12) (hd : decode (mB j) pc = .ok (.invokevirtual 367, 3)) : J O j n0 Q pc L (v1 :: vr (b + 1) :: S) n M = (ob n b = 12 ∧ stk S ≤ 8 ∧ mo O 184 [vr (b + 1), v1] n M (kV O j n0 Q (pc + 3) L S n)) := by
  have e : kR (mR 184) O j n0 Q (pc + 3) L S n = kV O j n0 Q (pc + 3) L S n := kR_V
  rw [← e]; exact J_callV (As := [v1]) ce_278 (by rw [hm]) rfl rfl (by decide +kernel) rfl rfl hd
theorem ce_279 : (12, 343, 0, 202, 1897, 0) ∈ calL := by decide +kernel
theorem c_279 {O : pO} {j n0 : Nat} {Q : pQ} {pc : Nat} {L : pL} {S : List pv} {n : Nat} {M : pM} {b : Nat} (hm : mO j = 12) (hd : decode (mB j) pc = .ok (.invokevirtual 343, 3)) : J O j n0 Q pc L (vr (b + 1) :: S) n M = (ob n b = 12 ∧ stk S ≤ 8 ∧ mo O 202 [vr (b + 1)] n M (kV O j n0 Q (pc + 3) L S n)) := by
  have e : kR (mR 202) O j n0 Q (pc + 3) L S n = kV O j n0 Q (pc + 3) L S n := kR_V
  rw [← e]; exact J_callV (As := []) ce_279 (by rw [hm]) rfl rfl (by decide +kernel) rfl rfl hd
theorem ce_280 : (12, 346, 0, 203, 1901, 0) ∈ calL := by decide +kernel
theorem c_280 {O : pO} {j n0 : Nat} {Q : pQ} {pc : Nat} {L : pL} {S : List pv} {n : Nat} {M : pM} {b : Nat} (hm : mO j = 12) (hd : decode (mB j) pc = .ok (.invokevirtual 346, 3)) : J O j n0 Q pc L (vr (b + 1) :: S) n M = (ob n b = 12 ∧ stk S ≤ 8 ∧ mo O 203 [vr (b + 1)] n M (kV O j n0 Q (pc + 3) L S n)) := by
  have e : kR (mR 203) O j n0 Q (pc + 3) L S n = kV O j n0 Q (pc + 3) L S n := kR_V
  rw [← e]; exact J_callV (As := []) ce_280 (by rw [hm]) rfl rfl (by decide +kernel) rfl rfl hd
theorem ce_281 : (12, 349, 0, 194, 1905, 0) ∈ calL := by decide +kernel
theorem c_281 {O : pO} {j n0 : Nat} {Q : pQ} {pc : Nat} {L : pL} {S : List pv} {n : Nat} {M : pM} {b : Nat} (hm : mO j = 12) (hd : decode (mB j) pc = .ok (.invokevirtual 349, 3)) : J O j n0 Q pc L (vr (b + 1) :: S) n M = (ob n b = 12 ∧ stk S ≤ 8 ∧ mo O 194 [vr (b + 1)] n M (kV O j n0 Q (pc + 3) L S n)) := by
  have e : kR (mR 194) O j n0 Q (pc + 3) L S n = kV O j n0 Q (pc + 3) L S n := kR_V
  rw [← e]; exact J_callV (As := []) ce_281 (by rw [hm]) rfl rfl (by decide +kernel) rfl rfl hd
theorem ce_282 : (12, 378, 0, 191, 1909, 0) ∈ calL := by decide +kernel
theorem c_282 {O : pO} {j n0 : Nat} {Q : pQ} {pc : Nat} {L : pL} {S : List pv} {n : Nat} {M : pM} {b : Nat} {v1 v2 : pv} (hm : mO j = 12) (hd : decode (mB j) pc = .ok (.invokevirtual 378, 3)) : J O j n0 Q pc L (v2 :: v1 :: vr (b + 1) :: S) n M = (ob n b = 12 ∧ stk S ≤ 8 ∧ mo O 191 [vr (b + 1), v1, v2] n M (kI O j n0 Q (pc + 3) L S n)) := by
  have e : kR (mR 191) O j n0 Q (pc + 3) L S n = kI O j n0 Q (pc + 3) L S n := kR_I (Or.inl rfl)
  rw [← e]; exact J_callV (As := [v1, v2]) ce_282 (by rw [hm]) rfl rfl (by decide +kernel) rfl rfl hd
theorem ce_283 : (12, 382, 0, 193, 1913, 0) ∈ calL := by decide +kernel
theorem c_283 {O : pO} {j n0 : Nat} {Q : pQ} {pc : Nat} {L : pL} {S : List pv} {n : Nat} {M : pM} {b : Nat} {v1 : pv} (hm : mO j = 12) (hd : decode (mB j) pc = .ok (.invokevirtual 382, 3)) : J O j n0 Q pc L (v1 :: vr (b + 1) :: S) n M = (ob n b = 12 ∧ stk S ≤ 8 ∧ mo O 193 [vr (b + 1), v1] n M (kI O j n0 Q (pc + 3) L S n)) := by
  have e : kR (mR 193) O j n0 Q (pc + 3) L S n = kI O j n0 Q (pc + 3) L S n := kR_I (Or.inr (Or.inl rfl))
  rw [← e]; exact J_callV (As := [v1]) ce_283 (by rw [hm]) rfl rfl (by decide +kernel) rfl rfl hd
theorem ce_284 : (12, 375, 0, 192, 1917, 0) ∈ calL := by decide +kernel
theorem c_284 {O : pO} {j n0 : Nat} {Q : pQ} {pc : Nat} {L : pL} {S : List pv} {n : Nat} {M : pM} {b : Nat} {v1 : pv} (hm : mO j = 12) (hd : decode (mB j) pc = .ok (.invokevirtual 375, 3)) : J O j n0 Q pc L (v1 :: vr (b + 1) :: S) n M = (ob n b = 12 ∧ stk S ≤ 8 ∧ mo O 192 [vr (b + 1), v1] n M (kI O j n0 Q (pc + 3) L S n)) := by
  have e : kR (mR 192) O j n0 Q (pc + 3) L S n = kI O j n0 Q (pc + 3) L S n := kR_I (Or.inr (Or.inl rfl))
  rw [← e]; exact J_callV (As := [v1]) ce_284 (by rw [hm]) rfl rfl (by decide +kernel) rfl rfl hd
theorem ce_285 : (12, 352, 0, 195, 1921, 0) ∈ calL := by decide +kernel
theorem c_285 {O : pO} {j n0 : Nat} {Q : pQ} {pc : Nat} {L : pL} {S : List pv} {n : Nat} {M : pM} {b : Nat} (hm : mO j = 12) (hd : decode (mB j) pc = .ok (.invokevirtual 352, 3)) : J O j n0 Q pc L (vr (b + 1) :: S) n M = (ob n b = 12 ∧ stk S ≤ 8 ∧ mo O 195 [vr (b + 1)] n M (kV O j n0 Q (pc + 3) L S n)) := by
  have e : kR (mR 195) O j n0 Q (pc + 3) L S n = kV O j n0 Q (pc + 3) L S n := kR_V
  rw [← e]; exact J_callV (As := []) ce_285 (by rw [hm]) rfl rfl (by decide +kernel) rfl rfl hd
theorem ce_286 : (12, 355, 0, 197, 1925, 0) ∈ calL := by decide +kernel
theorem c_286 {O : pO} {j n0 : Nat} {Q : pQ} {pc : Nat} {L : pL} {S : List pv} {n : Nat} {M : pM} {b : Nat} (hm : mO j = 12) (hd : decode (mB j) pc = .ok (.invokevirtual 355, 3)) : J O j n0 Q pc L (vr (b + 1) :: S) n M = (ob n b = 12 ∧ stk S ≤ 8 ∧ mo O 197 [vr (b + 1)] n M (kV O j n0 Q (pc + 3) L S n)) := by
  have e : kR (mR 197) O j n0 Q (pc + 3) L S n = kV O j n0 Q (pc + 3) L S n := kR_V
  rw [← e]; exact J_callV (As := []) ce_286 (by rw [hm]) rfl rfl (by decide +kernel) rfl rfl hd
theorem ce_287 : (12, 385, 0, 196, 1929, 0) ∈ calL := by decide +kernel
theorem c_287 {O : pO} {j n0 : Nat} {Q : pQ} {pc : Nat} {L : pL} {S : List pv} {n : Nat} {M : pM} {b : Nat} {v1 : pv} (hm : mO j = 12) (hd : decode (mB j) pc = .ok (.invokevirtual 385, 3)) : J O j n0 Q pc L (v1 :: vr (b + 1) :: S) n M = (ob n b = 12 ∧ stk S ≤ 8 ∧ mo O 196 [vr (b + 1), v1] n M (kI O j n0 Q (pc + 3) L S n)) := by
  have e : kR (mR 196) O j n0 Q (pc + 3) L S n = kI O j n0 Q (pc + 3) L S n := kR_I (Or.inl rfl)
  rw [← e]; exact J_callV (As := [v1]) ce_287 (by rw [hm]) rfl rfl (by decide +kernel) rfl rfl hd
theorem ce_288 : (12, 358, 0, 198, 1933, 0) ∈ calL := by decide +kernel
theorem c_288 {O : pO} {j n0 : Nat} {Q : pQ} {pc : Nat} {L : pL} {S : List pv} {n : Nat} {M : pM} {b : Nat} (hm : mO j = 12) (hd : decode (mB j) pc = .ok (.invokevirtual 358, 3)) : J O j n0 Q pc L (vr (b + 1) :: S) n M = (ob n b = 12 ∧ stk S ≤ 8 ∧ mo O 198 [vr (b + 1)] n M (kV O j n0 Q (pc + 3) L S n)) := by
  have e : kR (mR 198) O j n0 Q (pc + 3) L S n = kV O j n0 Q (pc + 3) L S n := kR_V
  rw [← e]; exact J_callV (As := []) ce_288 (by rw [hm]) rfl rfl (by decide +kernel) rfl rfl hd
theorem ce_289 : (12, 361, 0, 201, 1937, 0) ∈ calL := by decide +kernel
theorem c_289 {O : pO} {j n0 : Nat} {Q : pQ} {pc : Nat} {L : pL} {S : List pv} {n : Nat} {M : pM} {b : Nat} (hm : mO j = 12) (hd : decode (mB j) pc = .ok (.invokevirtual 361, 3)) : J O j n0 Q pc L (vr (b + 1) :: S) n M = (ob n b = 12 ∧ stk S ≤ 8 ∧ mo O 201 [vr (b + 1)] n M (kV O j n0 Q (pc + 3) L S n)) := by
  have e : kR (mR 201) O j n0 Q (pc + 3) L S n = kV O j n0 Q (pc + 3) L S n := kR_V
  rw [← e]; exact J_callV (As := []) ce_289 (by rw [hm]) rfl rfl (by decide +kernel) rfl rfl hd
theorem ce_290 : (12, 364, 0, 181, 1941, 0) ∈ calL := by decide +kernel
theorem c_290 {O : pO} {j n0 : Nat} {Q : pQ} {pc : Nat} {L : pL} {S : List pv} {n : Nat} {M : pM} {b : Nat} {v1 : pv} (hm : mO j = 12) (hd : decode (mB j) pc = .ok (.invokevirtual 364, 3)) : J O j n0 Q pc L (v1 :: vr (b + 1) :: S) n M = (ob n b = 12 ∧ stk S ≤ 8 ∧ mo O 181 [vr (b + 1), v1] n M (kI O j n0 Q (pc + 3) L S n)) := by
  have e : kR (mR 181) O j n0 Q (pc + 3) L S n = kI O j n0 Q (pc + 3) L S n := kR_I (Or.inr (Or.inl rfl))
  rw [← e]; exact J_callV (As := [v1]) ce_290 (by rw [hm]) rfl rfl (by decide +kernel) rfl rfl hd
theorem ce_291 : (13, 35, 0, 204, 1945, 0) ∈ calL := by decide +kernel
theorem c_291 {O : pO} {j n0 : Nat} {Q : pQ} {pc : Nat} {L : pL} {S : List pv} {n : Nat} {M : pM} {b : Nat} {v1 : pv} (hm : mO j = 13) (hd : decode (mB j) pc = .ok (.invokevirtual 35, 3)) : J O j n0 Q pc L (v1 :: vr (b + 1) :: S) n M = (ob n b = 12 ∧ stk S ≤ 8 ∧ mo O 204 [vr (b + 1), v1] n M (kI O j n0 Q (pc + 3) L S n)) := by
  have e : kR (mR 204) O j n0 Q (pc + 3) L S n = kI O j n0 Q (pc + 3) L S n := kR_I (Or.inl rfl)
  rw [← e]; exact J_callV (As := [v1]) ce_291 (by rw [hm]) rfl rfl (by decide +kernel) rfl rfl hd
theorem ce_292 : (13, 40, 0, 208, 1949, 0) ∈ calL := by decide +kernel
theorem c_292 {O : pO} {j n0 : Nat} {Q : pQ} {pc : Nat} {L : pL} {S : List pv} {n : Nat} {M : pM} {b : Nat} {v1 v2 : pv} (hm : mO j = 13) (hd : decode (mB j) pc = .ok (.invokevirtual 40, 3)) : J O j n0 Q pc L (v2 :: v1 :: vr (b + 1) :: S) n M = (ob n b = 12 ∧ stk S ≤ 8 ∧ mo O 208 [vr (b + 1), v1, v2] n M (kI O j n0 Q (pc + 3) L S n)) := by
  have e : kR (mR 208) O j n0 Q (pc + 3) L S n = kI O j n0 Q (pc + 3) L S n := kR_I (Or.inl rfl)
  rw [← e]; exact J_callV (As := [v1, v2]) ce_292 (by rw [hm]) rfl rfl (by decide +kernel) rfl rfl hd
theorem ce_293 : (12, 393, 1, 205, 1953, 0) ∈ calL := by decide +kernel
theorem c_293 {O : pO} {j n0 : Nat} {Q : pQ} {pc : Nat} {L : pL} {S : List pv} {n : Nat} {M : pM} {v1 : pv} (hm : mO j = 12) (hd : decode (mB j) pc = .ok (.invokestatic 393, 3)) : J O j n0 Q pc L (v1 :: S) n M = (stk S ≤ 8 ∧ mo O 205 [v1] n M (kI O j n0 Q (pc + 3) L S n)) := by
  have e : kR (mR 205) O j n0 Q (pc + 3) L S n = kI O j n0 Q (pc + 3) L S n := kR_I (Or.inr (Or.inl rfl))
  rw [← e]; exact J_callS (As := [v1]) ce_293 (by rw [hm]) rfl rfl (by decide +kernel) rfl rfl hd
theorem ce_294 : (12, 396, 1, 206, 1956, 0) ∈ calL := by decide +kernel
theorem c_294 {O : pO} {j n0 : Nat} {Q : pQ} {pc : Nat} {L : pL} {S : List pv} {n : Nat} {M : pM} {v1 : pv} (hm : mO j = 12) (hd : decode (mB j) pc = .ok (.invokestatic 396, 3)) : J O j n0 Q pc L (v1 :: S) n M = (stk S ≤ 8 ∧ mo O 206 [v1] n M (kI O j n0 Q (pc + 3) L S n)) := by
  have e : kR (mR 206) O j n0 Q (pc + 3) L S n = kI O j n0 Q (pc + 3) L S n := kR_I (Or.inr (Or.inl rfl))
  rw [← e]; exact J_callS (As := [v1]) ce_294 (by rw [hm]) rfl rfl (by decide +kernel) rfl rfl hd
theorem ce_295 : (12, 399, 0, 207, 1959, 0) ∈ calL := by decide +kernel
theorem c_295 {O : pO} {j n0 : Nat} {Q : pQ} {pc : Nat} {L : pL} {S : List pv} {n : Nat} {M : pM} {b : Nat} {v1 v2 : pv} (hm : mO j = 12) (hd : decode (mB j) pc = .ok (.invokevirtual 399, 3)) : J O j n0 Q pc L (v2 :: v1 :: vr (b + 1) :: S) n M = (ob n b = 12 ∧ stk S ≤ 8 ∧ mo O 207 [vr (b + 1), v1, v2] n M (kI O j n0 Q (pc + 3) L S n)) := by
  have e : kR (mR 207) O j n0 Q (pc + 3) L S n = kI O j n0 Q (pc + 3) L S n := kR_I (Or.inl rfl)
  rw [← e]; exact J_callV (As := [v1, v2]) ce_295 (by rw [hm]) rfl rfl (by decide +kernel) rfl rfl hd
theorem ce_296 : (13, 44, 0, 213, 1963, 0) ∈ calL := by decide +kernel
theorem c_296 {O : pO} {j n0 : Nat} {Q : pQ} {pc : Nat} {L : pL} {S : List pv} {n : Nat} {M : pM} {b : Nat} {v1 : pv} (hm : mO j = 13) (hd : decode (mB j) pc = .ok (.invokevirtual 44, 3)) : J O j n0 Q pc L (v1 :: vr (b + 1) :: S) n M = (ob n b = 12 ∧ stk S ≤ 8 ∧ mo O 213 [vr (b + 1), v1] n M (kI O j n0 Q (pc + 3) L S n)) := by
  have e : kR (mR 213) O j n0 Q (pc + 3) L S n = kI O j n0 Q (pc + 3) L S n := kR_I (Or.inl rfl)
  rw [← e]; exact J_callV (As := [v1]) ce_296 (by rw [hm]) rfl rfl (by decide +kernel) rfl rfl hd
theorem ce_297 : (12, 406, 0, 211, 1967, 0) ∈ calL := by decide +kernel
theorem c_297 {O : pO} {j n0 : Nat} {Q : pQ} {pc : Nat} {L : pL} {S : List pv} {n : Nat} {M : pM} {b : Nat} {v1 : pv} (hm : mO j = 12) (hd : decode (mB j) pc = .ok (.invokevirtual 406, 3)) : J O j n0 Q pc L (v1 :: vr (b + 1) :: S) n M = (ob n b = 12 ∧ stk S ≤ 8 ∧ mo O 211 [vr (b + 1), v1] n M (kI O j n0 Q (pc + 3) L S n)) := by
  have e : kR (mR 211) O j n0 Q (pc + 3) L S n = kI O j n0 Q (pc + 3) L S n := kR_I (Or.inl rfl)
  rw [← e]; exact J_callV (As := [v1]) ce_297 (by rw [hm]) rfl rfl (by decide +kernel) rfl rfl hd
theorem ce_298 : (12, 402, 0, 209, 1971, 0) ∈ calL := by decide +kernel
theorem c_298 {O : pO} {j n0 : Nat} {Q : pQ} {pc : Nat} {L : pL} {S : List pv} {n : Nat} {M : pM} {b : Nat} {v1 v2 : pv} (hm : mO j = 12) (hd : decode (mB j) pc = .ok (.invokevirtual 402, 3)) : J O j n0 Q pc L (v2 :: v1 :: vr (b + 1) :: S) n M = (ob n b = 12 ∧ stk S ≤ 8 ∧ mo O 209 [vr (b + 1), v1, v2] n M (kI O j n0 Q (pc + 3) L S n)) := by
  have e : kR (mR 209) O j n0 Q (pc + 3) L S n = kI O j n0 Q (pc + 3) L S n := kR_I (Or.inl rfl)
  rw [← e]; exact J_callV (As := [v1, v2]) ce_298 (by rw [hm]) rfl rfl (by decide +kernel) rfl rfl hd
theorem ce_299 : (12, 409, 0, 210, 1975, 0) ∈ calL := by decide +kernel
theorem c_299 {O : pO} {j n0 : Nat} {Q : pQ} {pc : Nat} {L : pL} {S : List pv} {n : Nat} {M : pM} {b : Nat} {v1 : pv} (hm : mO j = 12) (hd : decode (mB j) pc = .ok (.invokevirtual 409, 3)) : J O j n0 Q pc L (v1 :: vr (b + 1) :: S) n M = (ob n b = 12 ∧ stk S ≤ 8 ∧ mo O 210 [vr (b + 1), v1] n M (kI O j n0 Q (pc + 3) L S n)) := by
  have e : kR (mR 210) O j n0 Q (pc + 3) L S n = kI O j n0 Q (pc + 3) L S n := kR_I (Or.inl rfl)
  rw [← e]; exact J_callV (As := [v1]) ce_299 (by rw [hm]) rfl rfl (by decide +kernel) rfl rfl hd
theorem ce_300 : (13, 48, 0, 214, 1979, 0) ∈ calL := by decide +kernel
theorem c_300 {O : pO} {j n0 : Nat} {Q : pQ} {pc : Nat} {L : pL} {S : List pv} {n : Nat} {M : pM} {b : Nat} {v1 : pv} (hm : mO j = 13) (hd : decode (mB j) pc = .ok (.invokevirtual 48, 3)) : J O j n0 Q pc L (v1 :: vr (b + 1) :: S) n M = (ob n b = 12 ∧ stk S ≤ 8 ∧ mo O 214 [vr (b + 1), v1] n M (kI O j n0 Q (pc + 3) L S n)) := by
  have e : kR (mR 214) O j n0 Q (pc + 3) L S n = kI O j n0 Q (pc + 3) L S n := kR_I (Or.inl rfl)
  rw [← e]; exact J_callV (As := [v1]) ce_300 (by rw [hm]) rfl rfl (by decide +kernel) rfl rfl hd
theorem ce_301 : (12, 412, 0, 212, 1983, 0) ∈ calL := by decide +kernel
theorem c_301 {O : pO} {j n0 : Nat} {Q : pQ} {pc : Nat} {L : pL} {S : List pv} {n : Nat} {M : pM} {b : Nat} {v1 : pv} (hm : mO j = 12) (hd : decode (mB j) pc = .ok (.invokevirtual 412, 3)) : J O j n0 Q pc L (v1 :: vr (b + 1) :: S) n M = (ob n b = 12 ∧ stk S ≤ 8 ∧ mo O 212 [vr (b + 1), v1] n M (kI O j n0 Q (pc + 3) L S n)) := by
  have e : kR (mR 212) O j n0 Q (pc + 3) L S n = kI O j n0 Q (pc + 3) L S n := kR_I (Or.inl rfl)
  rw [← e]; exact J_callV (As := [v1]) ce_301 (by rw [hm]) rfl rfl (by decide +kernel) rfl rfl hd
theorem ce_302 : (13, 53, 0, 218, 1987, 0) ∈ calL := by decide +kernel
theorem c_302 {O : pO} {j n0 : Nat} {Q : pQ} {pc : Nat} {L : pL} {S : List pv} {n : Nat} {M : pM} {b : Nat} {v1 v2 v3 : pv} (hm : mO j = 13) (hd : decode (mB j) pc = .ok (.invokevirtual 53, 3)) : J O j n0 Q pc L (v3 :: v2 :: v1 :: vr (b + 1) :: S) n M = (ob n b = 12 ∧ stk S ≤ 8 ∧ mo O 218 [vr (b + 1), v1, v2, v3] n M (kI O j n0 Q (pc + 3) L S n)) := by
  have e : kR (mR 218) O j n0 Q (pc + 3) L S n = kI O j n0 Q (pc + 3) L S n := kR_I (Or.inl rfl)
  rw [← e]; exact J_callV (As := [v1, v2, v3]) ce_302 (by rw [hm]) rfl rfl (by decide +kernel) rfl rfl hd
theorem ce_303 : (12, 415, 1, 216, 1991, 0) ∈ calL := by decide +kernel
theorem c_303 {O : pO} {j n0 : Nat} {Q : pQ} {pc : Nat} {L : pL} {S : List pv} {n : Nat} {M : pM} {v1 : pv} (hm : mO j = 12) (hd : decode (mB j) pc = .ok (.invokestatic 415, 3)) : J O j n0 Q pc L (v1 :: S) n M = (stk S ≤ 8 ∧ mo O 216 [v1] n M (kI O j n0 Q (pc + 3) L S n)) := by
  have e : kR (mR 216) O j n0 Q (pc + 3) L S n = kI O j n0 Q (pc + 3) L S n := kR_I (Or.inr (Or.inl rfl))
  rw [← e]; exact J_callS (As := [v1]) ce_303 (by rw [hm]) rfl rfl (by decide +kernel) rfl rfl hd
theorem ce_304 : (12, 418, 1, 217, 1994, 0) ∈ calL := by decide +kernel
theorem c_304 {O : pO} {j n0 : Nat} {Q : pQ} {pc : Nat} {L : pL} {S : List pv} {n : Nat} {M : pM} {v1 : pv} (hm : mO j = 12) (hd : decode (mB j) pc = .ok (.invokestatic 418, 3)) : J O j n0 Q pc L (v1 :: S) n M = (stk S ≤ 8 ∧ mo O 217 [v1] n M (kI O j n0 Q (pc + 3) L S n)) := by
  have e : kR (mR 217) O j n0 Q (pc + 3) L S n = kI O j n0 Q (pc + 3) L S n := kR_I (Or.inr (Or.inl rfl))
  rw [← e]; exact J_callS (As := [v1]) ce_304 (by rw [hm]) rfl rfl (by decide +kernel) rfl rfl hd
theorem ce_305 : (12, 421, 0, 215, 1997, 0) ∈ calL := by decide +kernel
theorem c_305 {O : pO} {j n0 : Nat} {Q : pQ} {pc : Nat} {L : pL} {S : List pv} {n : Nat} {M : pM} {b : Nat} {v1 v2 v3 : pv} (hm : mO j = 12) (hd : decode (mB j) pc = .ok (.invokevirtual 421, 3)) : J O j n0 Q pc L (v3 :: v2 :: v1 :: vr (b + 1) :: S) n M = (ob n b = 12 ∧ stk S ≤ 8 ∧ mo O 215 [vr (b + 1), v1, v2, v3] n M (kI O j n0 Q (pc + 3) L S n)) := by
  have e : kR (mR 215) O j n0 Q (pc + 3) L S n = kI O j n0 Q (pc + 3) L S n := kR_I (Or.inr (Or.inl rfl))
  rw [← e]; exact J_callV (As := [v1, v2, v3]) ce_305 (by rw [hm]) rfl rfl (by decide +kernel) rfl rfl hd
theorem ce_306 : (13, 57, 0, 224, 2001, 0) ∈ calL := by decide +kernel
theorem c_306 {O : pO} {j n0 : Nat} {Q : pQ} {pc : Nat} {L : pL} {S : List pv} {n : Nat} {M : pM} {b : Nat} {v1 v2 v3 v4 v5 : pv} (hm : mO j = 13) (hd : decode (mB j) pc = .ok (.invokevirtual 57, 3)) : J O j n0 Q pc L (v5 :: v4 :: v3 :: v2 :: v1 :: vr (b + 1) :: S) n M = (ob n b = 12 ∧ stk S ≤ 8 ∧ mo O 224 [vr (b + 1), v1, v2, v3, v4, v5] n M (kI O j n0 Q (pc + 3) L S n)) := by
  have e : kR (mR 224) O j n0 Q (pc + 3) L S n = kI O j n0 Q (pc + 3) L S n := kR_I (Or.inl rfl)
  rw [← e]; exact J_callV (As := [v1, v2, v3, v4, v5]) ce_306 (by rw [hm]) rfl rfl (by decide +kernel) rfl rfl hd
theorem ce_307 : (12, 443, 0, 223, 2005, 0) ∈ calL := by decide +kernel
theorem c_307 {O : pO} {j n0 : Nat} {Q : pQ} {pc : Nat} {L : pL} {S : List pv} {n : Nat} {M : pM} {b : Nat} {v1 v2 v3 v4 : pv} (hm : mO j = 12) (hd : decode (mB j) pc = .ok (.invokevirtual 443, 3)) : J O j n0 Q pc L (v4 :: v3 :: v2 :: v1 :: vr (b + 1) :: S) n M = (ob n b = 12 ∧ stk S ≤ 8 ∧ mo O 223 [vr (b + 1), v1, v2, v3, v4] n M (kI O j n0 Q (pc + 3) L S n)) := by
  have e : kR (mR 223) O j n0 Q (pc + 3) L S n = kI O j n0 Q (pc + 3) L S n := kR_I (Or.inr (Or.inl rfl))
  rw [← e]; exact J_callV (As := [v1, v2, v3, v4]) ce_307 (by rw [hm]) rfl rfl (by decide +kernel) rfl rfl hd
theorem ce_308 : (12, 440, 0, 219, 2009, 0) ∈ calL := by decide +kernel
theorem c_308 {O : pO} {j n0 : Nat} {Q : pQ} {pc : Nat} {L : pL} {S : List pv} {n : Nat} {M : pM} {b : Nat} {v1 : pv} (hm : mO j = 12) (hd : decode (mB j) pc = .ok (.invokevirtual 440, 3)) : J O j n0 Q pc L (v1 :: vr (b + 1) :: S) n M = (ob n b = 12 ∧ stk S ≤ 8 ∧ mo O 219 [vr (b + 1), v1] n M (kI O j n0 Q (pc + 3) L S n)) := by
  have e : kR (mR 219) O j n0 Q (pc + 3) L S n = kI O j n0 Q (pc + 3) L S n := kR_I (Or.inr (Or.inl rfl))
  rw [← e]; exact J_callV (As := [v1]) ce_308 (by rw [hm]) rfl rfl (by decide +kernel) rfl rfl hd
theorem ce_309 : (12, 447, 0, 222, 2013, 0) ∈ calL := by decide +kernel
theorem c_309 {O : pO} {j n0 : Nat} {Q : pQ} {pc : Nat} {L : pL} {S : List pv} {n : Nat} {M : pM} {b : Nat} {v1 v2 v3 v4 v5 : pv} (hm : mO j = 12) (hd : decode (mB j) pc = .ok (.invokevirtual 447, 3)) : J O j n0 Q pc L (v5 :: v4 :: v3 :: v2 :: v1 :: vr (b + 1) :: S) n M = (ob n b = 12 ∧ stk S ≤ 8 ∧ mo O 222 [vr (b + 1), v1, v2, v3, v4, v5] n M (kI O j n0 Q (pc + 3) L S n)) := by
  have e : kR (mR 222) O j n0 Q (pc + 3) L S n = kI O j n0 Q (pc + 3) L S n := kR_I (Or.inr (Or.inl rfl))
  rw [← e]; exact J_callV (As := [v1, v2, v3, v4, v5]) ce_309 (by rw [hm]) rfl rfl (by decide +kernel) rfl rfl hd
theorem ce_310 : (12, 434, 1, 220, 2017, 0) ∈ calL := by decide +kernel
theorem c_310 {O : pO} {j n0 : Nat} {Q : pQ} {pc : Nat} {L : pL} {S : List pv} {n : Nat} {M : pM} {v1 : pv} (hm : mO j = 12) (hd : decode (mB j) pc = .ok (.invokestatic 434, 3)) : J O j n0 Q pc L (v1 :: S) n M = (stk S ≤ 8 ∧ mo O 220 [v1] n M (kI O j n0 Q (pc + 3) L S n)) := by
  have e : kR (mR 220) O j n0 Q (pc + 3) L S n = kI O j n0 Q (pc + 3) L S n := kR_I (Or.inl rfl)
  rw [← e]; exact J_callS (As := [v1]) ce_310 (by rw [hm]) rfl rfl (by decide +kernel) rfl rfl hd
theorem ce_311 : (12, 437, 1, 221, 2020, 0) ∈ calL := by decide +kernel
theorem c_311 {O : pO} {j n0 : Nat} {Q : pQ} {pc : Nat} {L : pL} {S : List pv} {n : Nat} {M : pM} {v1 : pv} (hm : mO j = 12) (hd : decode (mB j) pc = .ok (.invokestatic 437, 3)) : J O j n0 Q pc L (v1 :: S) n M = (stk S ≤ 8 ∧ mo O 221 [v1] n M (kI O j n0 Q (pc + 3) L S n)) := by
  have e : kR (mR 221) O j n0 Q (pc + 3) L S n = kI O j n0 Q (pc + 3) L S n := kR_I (Or.inl rfl)
  rw [← e]; exact J_callS (As := [v1]) ce_311 (by rw [hm]) rfl rfl (by decide +kernel) rfl rfl hd
theorem ce_312 : (13, 62, 0, 225, 2023, 0) ∈ calL := by decide +kernel
theorem c_312 {O : pO} {j n0 : Nat} {Q : pQ} {pc : Nat} {L : pL} {S : List pv} {n : Nat} {M : pM} {b : Nat} {v1 v2 v3 v4 : pv} (hm : mO j = 13) (hd : decode (mB j) pc = .ok (.invokevirtual 62, 3)) : J O j n0 Q pc L (v4 :: v3 :: v2 :: v1 :: vr (b + 1) :: S) n M = (ob n b = 12 ∧ stk S ≤ 8 ∧ mo O 225 [vr (b + 1), v1, v2, v3, v4] n M (kI O j n0 Q (pc + 3) L S n)) := by
  have e : kR (mR 225) O j n0 Q (pc + 3) L S n = kI O j n0 Q (pc + 3) L S n := kR_I (Or.inr (Or.inl rfl))
  rw [← e]; exact J_callV (As := [v1, v2, v3, v4]) ce_312 (by rw [hm]) rfl rfl (by decide +kernel) rfl rfl hd
theorem ce_313 : (12, 454, 0, 226, 2027, 0) ∈ calL := by decide +kernel
theorem c_313 {O : pO} {j n0 : Nat} {Q : pQ} {pc : Nat} {L : pL} {S : List pv} {n : Nat} {M : pM} {b : Nat} {v1 : pv} (hm : mO j = 12) (hd : decode (mB j) pc = .ok (.invokevirtual 454, 3)) : J O j n0 Q pc L (v1 :: vr (b + 1) :: S) n M = (ob n b = 12 ∧ stk S ≤ 8 ∧ mo O 226 [vr (b + 1), v1] n M (kV O j n0 Q (pc + 3) L S n)) := by
  have e : kR (mR 226) O j n0 Q (pc + 3) L S n = kV O j n0 Q (pc + 3) L S n := kR_V
  rw [← e]; exact J_callV (As := [v1]) ce_313 (by rw [hm]) rfl rfl (by decide +kernel) rfl rfl hd
theorem ce_314 : (13, 66, 0, 233, 2031, 0) ∈ calL := by decide +kernel
theorem c_314 {O : pO} {j n0 : Nat} {Q : pQ} {pc : Nat} {L : pL} {S : List pv} {n : Nat} {M : pM} {b : Nat} {v1 v2 v3 v4 v5 : pv} (hm : mO j = 13) (hd : decode (mB j) pc = .ok (.invokevirtual 66, 3)) : J O j n0 Q pc L (v5 :: v4 :: v3 :: v2 :: v1 :: vr (b + 1) :: S) n M = (ob n b = 12 ∧ stk S ≤ 8 ∧ mo O 233 [vr (b + 1), v1, v2, v3, v4, v5] n M (kI O j n0 Q (pc + 3) L S n)) := by
  have e : kR (mR 233) O j n0 Q (pc + 3) L S n = kI O j n0 Q (pc + 3) L S n := kR_I (Or.inl rfl)
  rw [← e]; exact J_callV (As := [v1, v2, v3, v4, v5]) ce_314 (by rw [hm]) rfl rfl (by decide +kernel) rfl rfl hd
theorem ce_315 : (12, 482, 0, 232, 2035, 0) ∈ calL := by decide +kernel
theorem c_315 {O : pO} {j n0 : Nat} {Q : pQ} {pc : Nat} {L : pL} {S : List pv} {n : Nat} {M : pM} {b : Nat} {v1 v2 v3 v4 v5 : pv} (hm : mO j = 12) (hd : decode (mB j) pc = .ok (.invokevirtual 482, 3)) : J O j n0 Q pc L (v5 :: v4 :: v3 :: v2 :: v1 :: vr (b + 1) :: S) n M = (ob n b = 12 ∧ stk S ≤ 8 ∧ mo O 232 [vr (b + 1), v1, v2, v3, v4, v5] n M (kI O j n0 Q (pc + 3) L S n)) := by
  have e : kR (mR 232) O j n0 Q (pc + 3) L S n = kI O j n0 Q (pc + 3) L S n := kR_I (Or.inl rfl)
  rw [← e]; exact J_callV (As := [v1, v2, v3, v4, v5]) ce_315 (by rw [hm]) rfl rfl (by decide +kernel) rfl rfl hd
theorem ce_316 : (12, 479, 0, 231, 2039, 0) ∈ calL := by decide +kernel
theorem c_316 {O : pO} {j n0 : Nat} {Q : pQ} {pc : Nat} {L : pL} {S : List pv} {n : Nat} {M : pM} {b : Nat} {v1 v2 : pv} (hm : mO j = 12) (hd : decode (mB j) pc = .ok (.invokevirtual 479, 3)) : J O j n0 Q pc L (v2 :: v1 :: vr (b + 1) :: S) n M = (ob n b = 12 ∧ stk S ≤ 8 ∧ mo O 231 [vr (b + 1), v1, v2] n M (kV O j n0 Q (pc + 3) L S n)) := by
  have e : kR (mR 231) O j n0 Q (pc + 3) L S n = kV O j n0 Q (pc + 3) L S n := kR_V
  rw [← e]; exact J_callV (As := [v1, v2]) ce_316 (by rw [hm]) rfl rfl (by decide +kernel) rfl rfl hd
theorem ce_317 : (12, 468, 1, 228, 2043, 0) ∈ calL := by decide +kernel
theorem c_317 {O : pO} {j n0 : Nat} {Q : pQ} {pc : Nat} {L : pL} {S : List pv} {n : Nat} {M : pM} {v1 v2 v3 v4 : pv} (hm : mO j = 12) (hd : decode (mB j) pc = .ok (.invokestatic 468, 3)) : J O j n0 Q pc L (v4 :: v3 :: v2 :: v1 :: S) n M = (stk S ≤ 8 ∧ mo O 228 [v1, v2, v3, v4] n M (kI O j n0 Q (pc + 3) L S n)) := by
  have e : kR (mR 228) O j n0 Q (pc + 3) L S n = kI O j n0 Q (pc + 3) L S n := kR_I (Or.inl rfl)
  rw [← e]; exact J_callS (As := [v1, v2, v3, v4]) ce_317 (by rw [hm]) rfl rfl (by decide +kernel) rfl rfl hd
theorem ce_318 : (12, 472, 0, 230, 2046, 0) ∈ calL := by decide +kernel
theorem c_318 {O : pO} {j n0 : Nat} {Q : pQ} {pc : Nat} {L : pL} {S : List pv} {n : Nat} {M : pM} {b : Nat} {v1 v2 v3 v4 v5 v6 : pv} (hm : mO j = 12) (hd : decode (mB j) pc = .ok (.invokevirtual 472, 3)) : J O j n0 Q pc L (v6 :: v5 :: v4 :: v3 :: v2 :: v1 :: vr (b + 1) :: S) n M = (ob n b = 12 ∧ stk S ≤ 8 ∧ mo O 230 [vr (b + 1), v1, v2, v3, v4, v5, v6] n M (kI O j n0 Q (pc + 3) L S n)) := by
  have e : kR (mR 230) O j n0 Q (pc + 3) L S n = kI O j n0 Q (pc + 3) L S n := kR_I (Or.inl rfl)
  rw [← e]; exact J_callV (As := [v1, v2, v3, v4, v5, v6]) ce_318 (by rw [hm]) rfl rfl (by decide +kernel) rfl rfl hd
theorem ce_319 : (12, 462, 0, 229, 2050, 0) ∈ calL := by decide +kernel
theorem c_319 {O : pO} {j n0 : Nat} {Q : pQ} {pc : Nat} {L : pL} {S : List pv} {n : Nat} {M : pM} {b : Nat} {v1 v2 v3 v4 : pv} (hm : mO j = 12) (hd : decode (mB j) pc = .ok (.invokevirtual 462, 3)) : J O j n0 Q pc L (v4 :: v3 :: v2 :: v1 :: vr (b + 1) :: S) n M = (ob n b = 12 ∧ stk S ≤ 8 ∧ mo O 229 [vr (b + 1), v1, v2, v3, v4] n M (kI O j n0 Q (pc + 3) L S n)) := by
  have e : kR (mR 229) O j n0 Q (pc + 3) L S n = kI O j n0 Q (pc + 3) L S n := kR_I (Or.inr (Or.inl rfl))
  rw [← e]; exact J_callV (As := [v1, v2, v3, v4]) ce_319 (by rw [hm]) rfl rfl (by decide +kernel) rfl rfl hd
theorem ce_320 : (12, 465, 0, 227, 2054, 0) ∈ calL := by decide +kernel
theorem c_320 {O : pO} {j n0 : Nat} {Q : pQ} {pc : Nat} {L : pL} {S : List pv} {n : Nat} {M : pM} {b : Nat} {v1 v2 : pv} (hm : mO j = 12) (hd : decode (mB j) pc = .ok (.invokevirtual 465, 3)) : J O j n0 Q pc L (v2 :: v1 :: vr (b + 1) :: S) n M = (ob n b = 12 ∧ stk S ≤ 8 ∧ mo O 227 [vr (b + 1), v1, v2] n M (kI O j n0 Q (pc + 3) L S n)) := by
  have e : kR (mR 227) O j n0 Q (pc + 3) L S n = kI O j n0 Q (pc + 3) L S n := kR_I (Or.inl rfl)
  rw [← e]; exact J_callV (As := [v1, v2]) ce_320 (by rw [hm]) rfl rfl (by decide +kernel) rfl rfl hd
theorem ce_321 : (13, 71, 0, 234, 2058, 0) ∈ calL := by decide +kernel
theorem c_321 {O : pO} {j n0 : Nat} {Q : pQ} {pc : Nat} {L : pL} {S : List pv} {n : Nat} {M : pM} {b : Nat} {v1 v2 v3 v4 v5 v6 : pv} (hm : mO j = 13) (hd : decode (mB j) pc = .ok (.invokevirtual 71, 3)) : J O j n0 Q pc L (v6 :: v5 :: v4 :: v3 :: v2 :: v1 :: vr (b + 1) :: S) n M = (ob n b = 12 ∧ stk S ≤ 8 ∧ mo O 234 [vr (b + 1), v1, v2, v3, v4, v5, v6] n M (kI O j n0 Q (pc + 3) L S n)) := by
  have e : kR (mR 234) O j n0 Q (pc + 3) L S n = kI O j n0 Q (pc + 3) L S n := kR_I (Or.inl rfl)
  rw [← e]; exact J_callV (As := [v1, v2, v3, v4, v5, v6]) ce_321 (by rw [hm]) rfl rfl (by decide +kernel) rfl rfl hd
theorem ce_322 : (13, 76, 0, 235, 2062, 0) ∈ calL := by decide +kernel
theorem c_322 {O : pO} {j n0 : Nat} {Q : pQ} {pc : Nat} {L : pL} {S : List pv} {n : Nat} {M : pM} {b : Nat} {v1 v2 v3 v4 : pv} (hm : mO j = 13) (hd : decode (mB j) pc = .ok (.invokevirtual 76, 3)) : J O j n0 Q pc L (v4 :: v3 :: v2 :: v1 :: vr (b + 1) :: S) n M = (ob n b = 12 ∧ stk S ≤ 8 ∧ mo O 235 [vr (b + 1), v1, v2, v3, v4] n M (kI O j n0 Q (pc + 3) L S n)) := by
  have e : kR (mR 235) O j n0 Q (pc + 3) L S n = kI O j n0 Q (pc + 3) L S n := kR_I (Or.inl rfl)
  rw [← e]; exact J_callV (As := [v1, v2, v3, v4]) ce_322 (by rw [hm]) rfl rfl (by decide +kernel) rfl rfl hd
theorem ce_323 : (12, 486, 0, 236, 2066, 0) ∈ calL := by decide +kernel
theorem c_323 {O : pO} {j n0 : Nat} {Q : pQ} {pc : Nat} {L : pL} {S : List pv} {n : Nat} {M : pM} {b : Nat} {v1 v2 v3 v4 : pv} (hm : mO j = 12) (hd : decode (mB j) pc = .ok (.invokevirtual 486, 3)) : J O j n0 Q pc L (v4 :: v3 :: v2 :: v1 :: vr (b + 1) :: S) n M = (ob n b = 12 ∧ stk S ≤ 8 ∧ mo O 236 [vr (b + 1), v1, v2, v3, v4] n M (kV O j n0 Q (pc + 3) L S n)) := by
  have e : kR (mR 236) O j n0 Q (pc + 3) L S n = kV O j n0 Q (pc + 3) L S n := kR_V
  rw [← e]; exact J_callV (As := [v1, v2, v3, v4]) ce_323 (by rw [hm]) rfl rfl (by decide +kernel) rfl rfl hd
theorem ce_324 : (12, 490, 0, 237, 2070, 0) ∈ calL := by decide +kernel
theorem c_324 {O : pO} {j n0 : Nat} {Q : pQ} {pc : Nat} {L : pL} {S : List pv} {n : Nat} {M : pM} {b : Nat} {v1 v2 : pv} (hm : mO j = 12) (hd : decode (mB j) pc = .ok (.invokevirtual 490, 3)) : J O j n0 Q pc L (v2 :: v1 :: vr (b + 1) :: S) n M = (ob n b = 12 ∧ stk S ≤ 8 ∧ mo O 237 [vr (b + 1), v1, v2] n M (kI O j n0 Q (pc + 3) L S n)) := by
  have e : kR (mR 237) O j n0 Q (pc + 3) L S n = kI O j n0 Q (pc + 3) L S n := kR_I (Or.inr (Or.inl rfl))
  rw [← e]; exact J_callV (As := [v1, v2]) ce_324 (by rw [hm]) rfl rfl (by decide +kernel) rfl rfl hd
theorem ce_325 : (13, 81, 0, 239, 2074, 0) ∈ calL := by decide +kernel
theorem c_325 {O : pO} {j n0 : Nat} {Q : pQ} {pc : Nat} {L : pL} {S : List pv} {n : Nat} {M : pM} {b : Nat} {v1 v2 v3 : pv} (hm : mO j = 13) (hd : decode (mB j) pc = .ok (.invokevirtual 81, 3)) : J O j n0 Q pc L (v3 :: v2 :: v1 :: vr (b + 1) :: S) n M = (ob n b = 12 ∧ stk S ≤ 8 ∧ mo O 239 [vr (b + 1), v1, v2, v3] n M (kI O j n0 Q (pc + 3) L S n)) := by
  have e : kR (mR 239) O j n0 Q (pc + 3) L S n = kI O j n0 Q (pc + 3) L S n := kR_I (Or.inr (Or.inl rfl))
  rw [← e]; exact J_callV (As := [v1, v2, v3]) ce_325 (by rw [hm]) rfl rfl (by decide +kernel) rfl rfl hd
theorem ce_326 : (12, 494, 1, 238, 2078, 0) ∈ calL := by decide +kernel
theorem c_326 {O : pO} {j n0 : Nat} {Q : pQ} {pc : Nat} {L : pL} {S : List pv} {n : Nat} {M : pM} {v1 v2 v3 : pv} (hm : mO j = 12) (hd : decode (mB j) pc = .ok (.invokestatic 494, 3)) : J O j n0 Q pc L (v3 :: v2 :: v1 :: S) n M = (stk S ≤ 8 ∧ mo O 238 [v1, v2, v3] n M (kI O j n0 Q (pc + 3) L S n)) := by
  have e : kR (mR 238) O j n0 Q (pc + 3) L S n = kI O j n0 Q (pc + 3) L S n := kR_I (Or.inr (Or.inl rfl))
  rw [← e]; exact J_callS (As := [v1, v2, v3]) ce_326 (by rw [hm]) rfl rfl (by decide +kernel) rfl rfl hd
theorem ce_327 : (13, 86, 0, 240, 2081, 0) ∈ calL := by decide +kernel
theorem c_327 {O : pO} {j n0 : Nat} {Q : pQ} {pc : Nat} {L : pL} {S : List pv} {n : Nat} {M : pM} {b : Nat} {v1 v2 : pv} (hm : mO j = 13) (hd : decode (mB j) pc = .ok (.invokevirtual 86, 3)) : J O j n0 Q pc L (v2 :: v1 :: vr (b + 1) :: S) n M = (ob n b = 12 ∧ stk S ≤ 8 ∧ mo O 240 [vr (b + 1), v1, v2] n M (kI O j n0 Q (pc + 3) L S n)) := by
  have e : kR (mR 240) O j n0 Q (pc + 3) L S n = kI O j n0 Q (pc + 3) L S n := kR_I (Or.inl rfl)
  rw [← e]; exact J_callV (As := [v1, v2]) ce_327 (by rw [hm]) rfl rfl (by decide +kernel) rfl rfl hd
theorem ce_328 : (12, 500, 0, 241, 2085, 0) ∈ calL := by decide +kernel
theorem c_328 {O : pO} {j n0 : Nat} {Q : pQ} {pc : Nat} {L : pL} {S : List pv} {n : Nat} {M : pM} {b : Nat} (hm : mO j = 12) (hd : decode (mB j) pc = .ok (.invokevirtual 500, 3)) : J O j n0 Q pc L (vr (b + 1) :: S) n M = (ob n b = 12 ∧ stk S ≤ 8 ∧ mo O 241 [vr (b + 1)] n M (kV O j n0 Q (pc + 3) L S n)) := by
  have e : kR (mR 241) O j n0 Q (pc + 3) L S n = kV O j n0 Q (pc + 3) L S n := kR_V
  rw [← e]; exact J_callV (As := []) ce_328 (by rw [hm]) rfl rfl (by decide +kernel) rfl rfl hd
theorem ce_329 : (13, 90, 0, 242, 2089, 0) ∈ calL := by decide +kernel
theorem c_329 {O : pO} {j n0 : Nat} {Q : pQ} {pc : Nat} {L : pL} {S : List pv} {n : Nat} {M : pM} {b : Nat} {v1 v2 : pv} (hm : mO j = 13) (hd : decode (mB j) pc = .ok (.invokevirtual 90, 3)) : J O j n0 Q pc L (v2 :: v1 :: vr (b + 1) :: S) n M = (ob n b = 12 ∧ stk S ≤ 8 ∧ mo O 242 [vr (b + 1), v1, v2] n M (kI O j n0 Q (pc + 3) L S n)) := by
  have e : kR (mR 242) O j n0 Q (pc + 3) L S n = kI O j n0 Q (pc + 3) L S n := kR_I (Or.inl rfl)
  rw [← e]; exact J_callV (As := [v1, v2]) ce_329 (by rw [hm]) rfl rfl (by decide +kernel) rfl rfl hd
theorem ce_330 : (13, 94, 0, 244, 2093, 0) ∈ calL := by decide +kernel
theorem c_330 {O : pO} {j n0 : Nat} {Q : pQ} {pc : Nat} {L : pL} {S : List pv} {n : Nat} {M : pM} {b : Nat} {v1 : pv} (hm : mO j = 13) (hd : decode (mB j) pc = .ok (.invokevirtual 94, 3)) : J O j n0 Q pc L (v1 :: vr (b + 1) :: S) n M = (ob n b = 12 ∧ stk S ≤ 8 ∧ mo O 244 [vr (b + 1), v1] n M (kI O j n0 Q (pc + 3) L S n)) := by
  have e : kR (mR 244) O j n0 Q (pc + 3) L S n = kI O j n0 Q (pc + 3) L S n := kR_I (Or.inl rfl)
  rw [← e]; exact J_callV (As := [v1]) ce_330 (by rw [hm]) rfl rfl (by decide +kernel) rfl rfl hd
theorem ce_331 : (13, 98, 0, 245, 2097, 0) ∈ calL := by decide +kernel
theorem c_331 {O : pO} {j n0 : Nat} {Q : pQ} {pc : Nat} {L : pL} {S : List pv} {n : Nat} {M : pM} {b : Nat} {v1 v2 v3 v4 : pv} (hm : mO j = 13) (hd : decode (mB j) pc = .ok (.invokevirtual 98, 3)) : J O j n0 Q pc L (v4 :: v3 :: v2 :: v1 :: vr (b + 1) :: S) n M = (ob n b = 12 ∧ stk S ≤ 8 ∧ mo O 245 [vr (b + 1), v1, v2, v3, v4] n M (kI O j n0 Q (pc + 3) L S n)) := by
  have e : kR (mR 245) O j n0 Q (pc + 3) L S n = kI O j n0 Q (pc + 3) L S n := kR_I (Or.inl rfl)
  rw [← e]; exact J_callV (As := [v1, v2, v3, v4]) ce_331 (by rw [hm]) rfl rfl (by decide +kernel) rfl rfl hd
theorem ce_332 : (12, 503, 0, 243, 2101, 0) ∈ calL := by decide +kernel
theorem c_332 {O : pO} {j n0 : Nat} {Q : pQ} {pc : Nat} {L : pL} {S : List pv} {n : Nat} {M : pM} {b : Nat} {v1 : pv} (hm : mO j = 12) (hd : decode (mB j) pc = .ok (.invokevirtual 503, 3)) : J O j n0 Q pc L (v1 :: vr (b + 1) :: S) n M = (ob n b = 12 ∧ stk S ≤ 8 ∧ mo O 243 [vr (b + 1), v1] n M (kI O j n0 Q (pc + 3) L S n)) := by
  have e : kR (mR 243) O j n0 Q (pc + 3) L S n = kI O j n0 Q (pc + 3) L S n := kR_I (Or.inr (Or.inl rfl))
  rw [← e]; exact J_callV (As := [v1]) ce_332 (by rw [hm]) rfl rfl (by decide +kernel) rfl rfl hd
theorem ce_333 : (13, 103, 0, 246, 2105, 0) ∈ calL := by decide +kernel
theorem c_333 {O : pO} {j n0 : Nat} {Q : pQ} {pc : Nat} {L : pL} {S : List pv} {n : Nat} {M : pM} {b : Nat} {v1 : pv} (hm : mO j = 13) (hd : decode (mB j) pc = .ok (.invokevirtual 103, 3)) : J O j n0 Q pc L (v1 :: vr (b + 1) :: S) n M = (ob n b = 12 ∧ stk S ≤ 8 ∧ mo O 246 [vr (b + 1), v1] n M (kI O j n0 Q (pc + 3) L S n)) := by
  have e : kR (mR 246) O j n0 Q (pc + 3) L S n = kI O j n0 Q (pc + 3) L S n := kR_I (Or.inr (Or.inl rfl))
  rw [← e]; exact J_callV (As := [v1]) ce_333 (by rw [hm]) rfl rfl (by decide +kernel) rfl rfl hd
theorem ce_334 : (13, 107, 0, 247, 2109, 0) ∈ calL := by decide +kernel
theorem c_334 {O : pO} {j n0 : Nat} {Q : pQ} {pc : Nat} {L : pL} {S : List pv} {n : Nat} {M : pM} {b : Nat} {v1 : pv} (hm : mO j = 13) (hd : decode (mB j) pc = .ok (.invokevirtual 107, 3)) : J O j n0 Q pc L (v1 :: vr (b + 1) :: S) n M = (ob n b = 12 ∧ stk S ≤ 8 ∧ mo O 247 [vr (b + 1), v1] n M (kI O j n0 Q (pc + 3) L S n)) := by
  have e : kR (mR 247) O j n0 Q (pc + 3) L S n = kI O j n0 Q (pc + 3) L S n := kR_I (Or.inl rfl)
  rw [← e]; exact J_callV (As := [v1]) ce_334 (by rw [hm]) rfl rfl (by decide +kernel) rfl rfl hd
theorem ce_335 : (13, 111, 0, 248, 2113, 0) ∈ calL := by decide +kernel
theorem c_335 {O : pO} {j n0 : Nat} {Q : pQ} {pc : Nat} {L : pL} {S : List pv} {n : Nat} {M : pM} {b : Nat} {v1 : pv} (hm : mO j = 13) (hd : decode (mB j) pc = .ok (.invokevirtual 111, 3)) : J O j n0 Q pc L (v1 :: vr (b + 1) :: S) n M = (ob n b = 12 ∧ stk S ≤ 8 ∧ mo O 248 [vr (b + 1), v1] n M (kI O j n0 Q (pc + 3) L S n)) := by
  have e : kR (mR 248) O j n0 Q (pc + 3) L S n = kI O j n0 Q (pc + 3) L S n := kR_I (Or.inr (Or.inl rfl))
  rw [← e]; exact J_callV (As := [v1]) ce_335 (by rw [hm]) rfl rfl (by decide +kernel) rfl rfl hd
theorem ce_336 : (13, 116, 0, 256, 2117, 0) ∈ calL := by decide +kernel
theorem c_336 {O : pO} {j n0 : Nat} {Q : pQ} {pc : Nat} {L : pL} {S : List pv} {n : Nat} {M : pM} {b : Nat} {v1 v2 v3 : pv} (hm : mO j = 13) (hd : decode (mB j) pc = .ok (.invokevirtual 116, 3)) : J O j n0 Q pc L (v3 :: v2 :: v1 :: vr (b + 1) :: S) n M = (ob n b = 12 ∧ stk S ≤ 8 ∧ mo O 256 [vr (b + 1), v1, v2, v3] n M (kI O j n0 Q (pc + 3) L S n)) := by
  have e : kR (mR 256) O j n0 Q (pc + 3) L S n = kI O j n0 Q (pc + 3) L S n := kR_I (Or.inl rfl)
  rw [← e]; exact J_callV (As := [v1, v2, v3]) ce_336 (by rw [hm]) rfl rfl (by decide +kernel) rfl rfl hd
theorem ce_337 : (12, 528, 0, 251, 2121, 0) ∈ calL := by decide +kernel
theorem c_337 {O : pO} {j n0 : Nat} {Q : pQ} {pc : Nat} {L : pL} {S : List pv} {n : Nat} {M : pM} {b : Nat} {v1 v2 : pv} (hm : mO j = 12) (hd : decode (mB j) pc = .ok (.invokevirtual 528, 3)) : J O j n0 Q pc L (v2 :: v1 :: vr (b + 1) :: S) n M = (ob n b = 12 ∧ stk S ≤ 8 ∧ mo O 251 [vr (b + 1), v1, v2] n M (kV O j n0 Q (pc + 3) L S n)) := by
  have e : kR (mR 251) O j n0 Q (pc + 3) L S n = kV O j n0 Q (pc + 3) L S n := kR_V
  rw [← e]; exact J_callV (As := [v1, v2]) ce_337 (by rw [hm]) rfl rfl (by decide +kernel) rfl rfl hd
theorem ce_338 : (12, 531, 0, 255, 2125, 0) ∈ calL := by decide +kernel
theorem c_338 {O : pO} {j n0 : Nat} {Q : pQ} {pc : Nat} {L : pL} {S : List pv} {n : Nat} {M : pM} {b : Nat} (hm : mO j = 12) (hd : decode (mB j) pc = .ok (.invokevirtual 531, 3)) : J O j n0 Q pc L (vr (b + 1) :: S) n M = (ob n b = 12 ∧ stk S ≤ 8 ∧ mo O 255 [vr (b + 1)] n M (kI O j n0 Q (pc + 3) L S n)) := by
  have e : kR (mR 255) O j n0 Q (pc + 3) L S n = kI O j n0 Q (pc + 3) L S n := kR_I (Or.inl rfl)
  rw [← e]; exact J_callV (As := []) ce_338 (by rw [hm]) rfl rfl (by decide +kernel) rfl rfl hd
theorem ce_339 : (12, 522, 0, 252, 2129, 0) ∈ calL := by decide +kernel
theorem c_339 {O : pO} {j n0 : Nat} {Q : pQ} {pc : Nat} {L : pL} {S : List pv} {n : Nat} {M : pM} {b : Nat} {v1 v2 : pv} (hm : mO j = 12) (hd : decode (mB j) pc = .ok (.invokevirtual 522, 3)) : J O j n0 Q pc L (v2 :: v1 :: vr (b + 1) :: S) n M = (ob n b = 12 ∧ stk S ≤ 8 ∧ mo O 252 [vr (b + 1), v1, v2] n M (kI O j n0 Q (pc + 3) L S n)) := by
  have e : kR (mR 252) O j n0 Q (pc + 3) L S n = kI O j n0 Q (pc + 3) L S n := kR_I (Or.inr (Or.inl rfl))
  rw [← e]; exact J_callV (As := [v1, v2]) ce_339 (by rw [hm]) rfl rfl (by decide +kernel) rfl rfl hd
theorem ce_340 : (12, 519, 1, 250, 2133, 0) ∈ calL := by decide +kernel
theorem c_340 {O : pO} {j n0 : Nat} {Q : pQ} {pc : Nat} {L : pL} {S : List pv} {n : Nat} {M : pM} {v1 v2 : pv} (hm : mO j = 12) (hd : decode (mB j) pc = .ok (.invokestatic 519, 3)) : J O j n0 Q pc L (v2 :: v1 :: S) n M = (stk S ≤ 8 ∧ mo O 250 [v1, v2] n M (kI O j n0 Q (pc + 3) L S n)) := by
  have e : kR (mR 250) O j n0 Q (pc + 3) L S n = kI O j n0 Q (pc + 3) L S n := kR_I (Or.inl rfl)
  rw [← e]; exact J_callS (As := [v1, v2]) ce_340 (by rw [hm]) rfl rfl (by decide +kernel) rfl rfl hd
theorem ce_341 : (12, 513, 1, 249, 2136, 0) ∈ calL := by decide +kernel
theorem c_341 {O : pO} {j n0 : Nat} {Q : pQ} {pc : Nat} {L : pL} {S : List pv} {n : Nat} {M : pM} {v1 : pv} (hm : mO j = 12) (hd : decode (mB j) pc = .ok (.invokestatic 513, 3)) : J O j n0 Q pc L (v1 :: S) n M = (stk S ≤ 8 ∧ mo O 249 [v1] n M (kI O j n0 Q (pc + 3) L S n)) := by
  have e : kR (mR 249) O j n0 Q (pc + 3) L S n = kI O j n0 Q (pc + 3) L S n := kR_I (Or.inl rfl)
  rw [← e]; exact J_callS (As := [v1]) ce_341 (by rw [hm]) rfl rfl (by decide +kernel) rfl rfl hd
theorem ce_342 : (12, 525, 0, 254, 2139, 0) ∈ calL := by decide +kernel
theorem c_342 {O : pO} {j n0 : Nat} {Q : pQ} {pc : Nat} {L : pL} {S : List pv} {n : Nat} {M : pM} {b : Nat} {v1 v2 : pv} (hm : mO j = 12) (hd : decode (mB j) pc = .ok (.invokevirtual 525, 3)) : J O j n0 Q pc L (v2 :: v1 :: vr (b + 1) :: S) n M = (ob n b = 12 ∧ stk S ≤ 8 ∧ mo O 254 [vr (b + 1), v1, v2] n M (kI O j n0 Q (pc + 3) L S n)) := by
  have e : kR (mR 254) O j n0 Q (pc + 3) L S n = kI O j n0 Q (pc + 3) L S n := kR_I (Or.inl rfl)
  rw [← e]; exact J_callV (As := [v1, v2]) ce_342 (by rw [hm]) rfl rfl (by decide +kernel) rfl rfl hd
theorem ce_343 : (12, 534, 0, 253, 2143, 0) ∈ calL := by decide +kernel
theorem c_343 {O : pO} {j n0 : Nat} {Q : pQ} {pc : Nat} {L : pL} {S : List pv} {n : Nat} {M : pM} {b : Nat} (hm : mO j = 12) (hd : decode (mB j) pc = .ok (.invokevirtual 534, 3)) : J O j n0 Q pc L (vr (b + 1) :: S) n M = (ob n b = 12 ∧ stk S ≤ 8 ∧ mo O 253 [vr (b + 1)] n M (kI O j n0 Q (pc + 3) L S n)) := by
  have e : kR (mR 253) O j n0 Q (pc + 3) L S n = kI O j n0 Q (pc + 3) L S n := kR_I (Or.inl rfl)
  rw [← e]; exact J_callV (As := []) ce_343 (by rw [hm]) rfl rfl (by decide +kernel) rfl rfl hd
theorem ce_344 : (13, 120, 0, 264, 2147, 0) ∈ calL := by decide +kernel
theorem c_344 {O : pO} {j n0 : Nat} {Q : pQ} {pc : Nat} {L : pL} {S : List pv} {n : Nat} {M : pM} {b : Nat} {v1 v2 v3 : pv} (hm : mO j = 13) (hd : decode (mB j) pc = .ok (.invokevirtual 120, 3)) : J O j n0 Q pc L (v3 :: v2 :: v1 :: vr (b + 1) :: S) n M = (ob n b = 12 ∧ stk S ≤ 8 ∧ mo O 264 [vr (b + 1), v1, v2, v3] n M (kI O j n0 Q (pc + 3) L S n)) := by
  have e : kR (mR 264) O j n0 Q (pc + 3) L S n = kI O j n0 Q (pc + 3) L S n := kR_I (Or.inl rfl)
  rw [← e]; exact J_callV (As := [v1, v2, v3]) ce_344 (by rw [hm]) rfl rfl (by decide +kernel) rfl rfl hd
theorem ce_345 : (12, 546, 0, 259, 2151, 0) ∈ calL := by decide +kernel
theorem c_345 {O : pO} {j n0 : Nat} {Q : pQ} {pc : Nat} {L : pL} {S : List pv} {n : Nat} {M : pM} {b : Nat} (hm : mO j = 12) (hd : decode (mB j) pc = .ok (.invokevirtual 546, 3)) : J O j n0 Q pc L (vr (b + 1) :: S) n M = (ob n b = 12 ∧ stk S ≤ 8 ∧ mo O 259 [vr (b + 1)] n M (kI O j n0 Q (pc + 3) L S n)) := by
  have e : kR (mR 259) O j n0 Q (pc + 3) L S n = kI O j n0 Q (pc + 3) L S n := kR_I (Or.inl rfl)
  rw [← e]; exact J_callV (As := []) ce_345 (by rw [hm]) rfl rfl (by decide +kernel) rfl rfl hd
theorem ce_346 : (12, 537, 0, 257, 2155, 0) ∈ calL := by decide +kernel
theorem c_346 {O : pO} {j n0 : Nat} {Q : pQ} {pc : Nat} {L : pL} {S : List pv} {n : Nat} {M : pM} {b : Nat} {v1 : pv} (hm : mO j = 12) (hd : decode (mB j) pc = .ok (.invokevirtual 537, 3)) : J O j n0 Q pc L (v1 :: vr (b + 1) :: S) n M = (ob n b = 12 ∧ stk S ≤ 8 ∧ mo O 257 [vr (b + 1), v1] n M (kI O j n0 Q (pc + 3) L S n)) := by
  have e : kR (mR 257) O j n0 Q (pc + 3) L S n = kI O j n0 Q (pc + 3) L S n := kR_I (Or.inl rfl)
  rw [← e]; exact J_callV (As := [v1]) ce_346 (by rw [hm]) rfl rfl (by decide +kernel) rfl rfl hd
theorem ce_347 : (12, 549, 0, 258, 2159, 0) ∈ calL := by decide +kernel
theorem c_347 {O : pO} {j n0 : Nat} {Q : pQ} {pc : Nat} {L : pL} {S : List pv} {n : Nat} {M : pM} {b : Nat} (hm : mO j = 12) (hd : decode (mB j) pc = .ok (.invokevirtual 549, 3)) : J O j n0 Q pc L (vr (b + 1) :: S) n M = (ob n b = 12 ∧ stk S ≤ 8 ∧ mo O 258 [vr (b + 1)] n M (kI O j n0 Q (pc + 3) L S n)) := by
  have e : kR (mR 258) O j n0 Q (pc + 3) L S n = kI O j n0 Q (pc + 3) L S n := kR_I (Or.inl rfl)
  rw [← e]; exact J_callV (As := []) ce_347 (by rw [hm]) rfl rfl (by decide +kernel) rfl rfl hd
theorem ce_348 : (12, 552, 0, 260, 2163, 0) ∈ calL := by decide +kernel
theorem c_348 {O : pO} {j n0 : Nat} {Q : pQ} {pc : Nat} {L : pL} {S : List pv} {n : Nat} {M : pM} {b : Nat} (hm : mO j = 12) (hd : decode (mB j) pc = .ok (.invokevirtual 552, 3)) : J O j n0 Q pc L (vr (b + 1) :: S) n M = (ob n b = 12 ∧ stk S ≤ 8 ∧ mo O 260 [vr (b + 1)] n M (kI O j n0 Q (pc + 3) L S n)) := by
  have e : kR (mR 260) O j n0 Q (pc + 3) L S n = kI O j n0 Q (pc + 3) L S n := kR_I (Or.inl rfl)
  rw [← e]; exact J_callV (As := []) ce_348 (by rw [hm]) rfl rfl (by decide +kernel) rfl rfl hd
theorem ce_349 : (12, 543, 0, 261, 2167, 0) ∈ calL := by decide +kernel
theorem c_349 {O : pO} {j n0 : Nat} {Q : pQ} {pc : Nat} {L : pL} {S : List pv} {n : Nat} {M : pM} {b : Nat} (hm : mO j = 12) (hd : decode (mB j) pc = .ok (.invokevirtual 543, 3)) : J O j n0 Q pc L (vr (b + 1) :: S) n M = (ob n b = 12 ∧ stk S ≤ 8 ∧ mo O 261 [vr (b + 1)] n M (kI O j n0 Q (pc + 3) L S n)) := by
  have e : kR (mR 261) O j n0 Q (pc + 3) L S n = kI O j n0 Q (pc + 3) L S n := kR_I (Or.inl rfl)
  rw [← e]; exact J_callV (As := []) ce_349 (by rw [hm]) rfl rfl (by decide +kernel) rfl rfl hd
theorem ce_350 : (12, 555, 0, 263, 2171, 0) ∈ calL := by decide +kernel
theorem c_350 {O : pO} {j n0 : Nat} {Q : pQ} {pc : Nat} {L : pL} {S : List pv} {n : Nat} {M : pM} {b : Nat} (hm : mO j = 12) (hd : decode (mB j) pc = .ok (.invokevirtual 555, 3)) : J O j n0 Q pc L (vr (b + 1) :: S) n M = (ob n b = 12 ∧ stk S ≤ 8 ∧ mo O 263 [vr (b + 1)] n M (kI O j n0 Q (pc + 3) L S n)) := by
  have e : kR (mR 263) O j n0 Q (pc + 3) L S n = kI O j n0 Q (pc + 3) L S n := kR_I (Or.inl rfl)
  rw [← e]; exact J_callV (As := []) ce_350 (by rw [hm]) rfl rfl (by decide +kernel) rfl rfl hd
theorem ce_351 : (12, 540, 0, 262, 2175, 0) ∈ calL := by decide +kernel
theorem c_351 {O : pO} {j n0 : Nat} {Q : pQ} {pc : Nat} {L : pL} {S : List pv} {n : Nat} {M : pM} {b : Nat} {v1 v2 : pv} (hm : mO j = 12) (hd : decode (mB j) pc = .ok (.invokevirtual 540, 3)) : J O j n0 Q pc L (v2 :: v1 :: vr (b + 1) :: S) n M = (ob n b = 12 ∧ stk S ≤ 8 ∧ mo O 262 [vr (b + 1), v1, v2] n M (kI O j n0 Q (pc + 3) L S n)) := by
  have e : kR (mR 262) O j n0 Q (pc + 3) L S n = kI O j n0 Q (pc + 3) L S n := kR_I (Or.inr (Or.inl rfl))
  rw [← e]; exact J_callV (As := [v1, v2]) ce_351 (by rw [hm]) rfl rfl (by decide +kernel) rfl rfl hd
theorem ce_352 : (13, 31, 0, 265, 2179, 0) ∈ calL := by decide +kernel
theorem c_352 {O : pO} {j n0 : Nat} {Q : pQ} {pc : Nat} {L : pL} {S : List pv} {n : Nat} {M : pM} {b : Nat} (hm : mO j = 13) (hd : decode (mB j) pc = .ok (.invokevirtual 31, 3)) : J O j n0 Q pc L (vr (b + 1) :: S) n M = (ob n b = 12 ∧ stk S ≤ 8 ∧ mo O 265 [vr (b + 1)] n M (kI O j n0 Q (pc + 3) L S n)) := by
  have e : kR (mR 265) O j n0 Q (pc + 3) L S n = kI O j n0 Q (pc + 3) L S n := kR_I (Or.inl rfl)
  rw [← e]; exact J_callV (As := []) ce_352 (by rw [hm]) rfl rfl (by decide +kernel) rfl rfl hd
theorem ce_353 : (12, 567, 0, 268, 2183, 0) ∈ calL := by decide +kernel
theorem c_353 {O : pO} {j n0 : Nat} {Q : pQ} {pc : Nat} {L : pL} {S : List pv} {n : Nat} {M : pM} {b : Nat} (hm : mO j = 12) (hd : decode (mB j) pc = .ok (.invokevirtual 567, 3)) : J O j n0 Q pc L (vr (b + 1) :: S) n M = (ob n b = 12 ∧ stk S ≤ 8 ∧ mo O 268 [vr (b + 1)] n M (kV O j n0 Q (pc + 3) L S n)) := by
  have e : kR (mR 268) O j n0 Q (pc + 3) L S n = kV O j n0 Q (pc + 3) L S n := kR_V
  rw [← e]; exact J_callV (As := []) ce_353 (by rw [hm]) rfl rfl (by decide +kernel) rfl rfl hd
theorem ce_354 : (12, 579, 0, 267, 2187, 0) ∈ calL := by decide +kernel
theorem c_354 {O : pO} {j n0 : Nat} {Q : pQ} {pc : Nat} {L : pL} {S : List pv} {n : Nat} {M : pM} {b : Nat} {v1 v2 : pv} (hm : mO j = 12) (hd : decode (mB j) pc = .ok (.invokevirtual 579, 3)) : J O j n0 Q pc L (v2 :: v1 :: vr (b + 1) :: S) n M = (ob n b = 12 ∧ stk S ≤ 8 ∧ mo O 267 [vr (b + 1), v1, v2] n M (kV O j n0 Q (pc + 3) L S n)) := by
  have e : kR (mR 267) O j n0 Q (pc + 3) L S n = kV O j n0 Q (pc + 3) L S n := kR_V
  rw [← e]; exact J_callV (As := [v1, v2]) ce_354 (by rw [hm]) rfl rfl (by decide +kernel) rfl rfl hd
theorem ce_355 : (12, 582, 0, 270, 2191, 0) ∈ calL := by decide +kernel
theorem c_355 {O : pO} {j n0 : Nat} {Q : pQ} {pc : Nat} {L : pL} {S : List pv} {n : Nat} {M : pM} {b : Nat} (hm : mO j = 12) (hd : decode (mB j) pc = .ok (.invokevirtual 582, 3)) : J O j n0 Q pc L (vr (b + 1) :: S) n M = (ob n b = 12 ∧ stk S ≤ 8 ∧ mo O 270 [vr (b + 1)] n M (kI O j n0 Q (pc + 3) L S n)) := by
  have e : kR (mR 270) O j n0 Q (pc + 3) L S n = kI O j n0 Q (pc + 3) L S n := kR_I (Or.inr (Or.inl rfl))
  rw [← e]; exact J_callV (As := []) ce_355 (by rw [hm]) rfl rfl (by decide +kernel) rfl rfl hd
theorem ce_356 : (12, 588, 0, 269, 2195, 0) ∈ calL := by decide +kernel
theorem c_356 {O : pO} {j n0 : Nat} {Q : pQ} {pc : Nat} {L : pL} {S : List pv} {n : Nat} {M : pM} {b : Nat} (hm : mO j = 12) (hd : decode (mB j) pc = .ok (.invokevirtual 588, 3)) : J O j n0 Q pc L (vr (b + 1) :: S) n M = (ob n b = 12 ∧ stk S ≤ 8 ∧ mo O 269 [vr (b + 1)] n M (kI O j n0 Q (pc + 3) L S n)) := by
  have e : kR (mR 269) O j n0 Q (pc + 3) L S n = kI O j n0 Q (pc + 3) L S n := kR_I (Or.inl rfl)
  rw [← e]; exact J_callV (As := []) ce_356 (by rw [hm]) rfl rfl (by decide +kernel) rfl rfl hd
theorem ce_357 : (12, 591, 0, 266, 2199, 0) ∈ calL := by decide +kernel
theorem c_357 {O : pO} {j n0 : Nat} {Q : pQ} {pc : Nat} {L : pL} {S : List pv} {n : Nat} {M : pM} {b : Nat} {v1 v2 : pv} (hm : mO j = 12) (hd : decode (mB j) pc = .ok (.invokevirtual 591, 3)) : J O j n0 Q pc L (v2 :: v1 :: vr (b + 1) :: S) n M = (ob n b = 12 ∧ stk S ≤ 8 ∧ mo O 266 [vr (b + 1), v1, v2] n M (kV O j n0 Q (pc + 3) L S n)) := by
  have e : kR (mR 266) O j n0 Q (pc + 3) L S n = kV O j n0 Q (pc + 3) L S n := kR_V
  rw [← e]; exact J_callV (As := [v1, v2]) ce_357 (by rw [hm]) rfl rfl (by decide +kernel) rfl rfl hd
theorem ce_358 : (12, 585, 0, 273, 2203, 0) ∈ calL := by decide +kernel
theorem c_358 {O : pO} {j n0 : Nat} {Q : pQ} {pc : Nat} {L : pL} {S : List pv} {n : Nat} {M : pM} {b : Nat} (hm : mO j = 12) (hd : decode (mB j) pc = .ok (.invokevirtual 585, 3)) : J O j n0 Q pc L (vr (b + 1) :: S) n M = (ob n b = 12 ∧ stk S ≤ 8 ∧ mo O 273 [vr (b + 1)] n M (kI O j n0 Q (pc + 3) L S n)) := by
  have e : kR (mR 273) O j n0 Q (pc + 3) L S n = kI O j n0 Q (pc + 3) L S n := kR_I (Or.inr (Or.inl rfl))
  rw [← e]; exact J_callV (As := []) ce_358 (by rw [hm]) rfl rfl (by decide +kernel) rfl rfl hd
theorem ce_359 : (12, 594, 0, 271, 2207, 0) ∈ calL := by decide +kernel
theorem c_359 {O : pO} {j n0 : Nat} {Q : pQ} {pc : Nat} {L : pL} {S : List pv} {n : Nat} {M : pM} {b : Nat} (hm : mO j = 12) (hd : decode (mB j) pc = .ok (.invokevirtual 594, 3)) : J O j n0 Q pc L (vr (b + 1) :: S) n M = (ob n b = 12 ∧ stk S ≤ 8 ∧ mo O 271 [vr (b + 1)] n M (kI O j n0 Q (pc + 3) L S n)) := by
  have e : kR (mR 271) O j n0 Q (pc + 3) L S n = kI O j n0 Q (pc + 3) L S n := kR_I (Or.inl rfl)
  rw [← e]; exact J_callV (As := []) ce_359 (by rw [hm]) rfl rfl (by decide +kernel) rfl rfl hd
theorem ce_360 : (12, 597, 0, 272, 2211, 0) ∈ calL := by decide +kernel
theorem c_360 {O : pO} {j n0 : Nat} {Q : pQ} {pc : Nat} {L : pL} {S : List pv} {n : Nat} {M : pM} {b : Nat} (hm : mO j = 12) (hd : decode (mB j) pc = .ok (.invokevirtual 597, 3)) : J O j n0 Q pc L (vr (b + 1) :: S) n M = (ob n b = 12 ∧ stk S ≤ 8 ∧ mo O 272 [vr (b + 1)] n M (kI O j n0 Q (pc + 3) L S n)) := by
  have e : kR (mR 272) O j n0 Q (pc + 3) L S n = kI O j n0 Q (pc + 3) L S n := kR_I (Or.inr (Or.inl rfl))
  rw [← e]; exact J_callV (As := []) ce_360 (by rw [hm]) rfl rfl (by decide +kernel) rfl rfl hd
theorem ce_361 : (13, 124, 0, 279, 2215, 0) ∈ calL := by decide +kernel
theorem c_361 {O : pO} {j n0 : Nat} {Q : pQ} {pc : Nat} {L : pL} {S : List pv} {n : Nat} {M : pM} {b : Nat} {v1 v2 : pv} (hm : mO j = 13) (hd : decode (mB j) pc = .ok (.invokevirtual 124, 3)) : J O j n0 Q pc L (v2 :: v1 :: vr (b + 1) :: S) n M = (ob n b = 12 ∧ stk S ≤ 8 ∧ mo O 279 [vr (b + 1), v1, v2] n M (kI O j n0 Q (pc + 3) L S n)) := by
  have e : kR (mR 279) O j n0 Q (pc + 3) L S n = kI O j n0 Q (pc + 3) L S n := kR_I (Or.inl rfl)
  rw [← e]; exact J_callV (As := [v1, v2]) ce_361 (by rw [hm]) rfl rfl (by decide +kernel) rfl rfl hd
theorem ce_362 : (12, 634, 0, 277, 2219, 0) ∈ calL := by decide +kernel
theorem c_362 {O : pO} {j n0 : Nat} {Q : pQ} {pc : Nat} {L : pL} {S : List pv} {n : Nat} {M : pM} {b : Nat} {v1 : pv} (hm : mO j = 12) (hd : decode (mB j) pc = .ok (.invokevirtual 634, 3)) : J O j n0 Q pc L (v1 :: vr (b + 1) :: S) n M = (ob n b = 12 ∧ stk S ≤ 8 ∧ mo O 277 [vr (b + 1), v1] n M (kV O j n0 Q (pc + 3) L S n)) := by
  have e : kR (mR 277) O j n0 Q (pc + 3) L S n = kV O j n0 Q (pc + 3) L S n := kR_V
  rw [← e]; exact J_callV (As := [v1]) ce_362 (by rw [hm]) rfl rfl (by decide +kernel) rfl rfl hd
theorem ce_363 : (12, 637, 0, 278, 2223, 0) ∈ calL := by decide +kernel
theorem c_363 {O : pO} {j n0 : Nat} {Q : pQ} {pc : Nat} {L : pL} {S : List pv} {n : Nat} {M : pM} {b : Nat} {v1 v2 : pv} (hm : mO j = 12) (hd : decode (mB j) pc = .ok (.invokevirtual 637, 3)) : J O j n0 Q pc L (v2 :: v1 :: vr (b + 1) :: S) n M = (ob n b = 12 ∧ stk S ≤ 8 ∧ mo O 278 [vr (b + 1), v1, v2] n M (kI O j n0 Q (pc + 3) L S n)) := by
  have e : kR (mR 278) O j n0 Q (pc + 3) L S n = kI O j n0 Q (pc + 3) L S n := kR_I (Or.inl rfl)
  rw [← e]; exact J_callV (As := [v1, v2]) ce_363 (by rw [hm]) rfl rfl (by decide +kernel) rfl rfl hd
theorem ce_364 : (12, 624, 1, 274, 2227, 0) ∈ calL := by decide +kernel
theorem c_364 {O : pO} {j n0 : Nat} {Q : pQ} {pc : Nat} {L : pL} {S : List pv} {n : Nat} {M : pM} {v1 : pv} (hm : mO j = 12) (hd : decode (mB j) pc = .ok (.invokestatic 624, 3)) : J O j n0 Q pc L (v1 :: S) n M = (stk S ≤ 8 ∧ mo O 274 [v1] n M (kI O j n0 Q (pc + 3) L S n)) := by
  have e : kR (mR 274) O j n0 Q (pc + 3) L S n = kI O j n0 Q (pc + 3) L S n := kR_I (Or.inl rfl)
  rw [← e]; exact J_callS (As := [v1]) ce_364 (by rw [hm]) rfl rfl (by decide +kernel) rfl rfl hd
theorem ce_365 : (12, 627, 0, 275, 2230, 0) ∈ calL := by decide +kernel
theorem c_365 {O : pO} {j n0 : Nat} {Q : pQ} {pc : Nat} {L : pL} {S : List pv} {n : Nat} {M : pM} {b : Nat} {v1 v2 : pv} (hm : mO j = 12) (hd : decode (mB j) pc = .ok (.invokevirtual 627, 3)) : J O j n0 Q pc L (v2 :: v1 :: vr (b + 1) :: S) n M = (ob n b = 12 ∧ stk S ≤ 8 ∧ mo O 275 [vr (b + 1), v1, v2] n M (kI O j n0 Q (pc + 3) L S n)) := by
  have e : kR (mR 275) O j n0 Q (pc + 3) L S n = kI O j n0 Q (pc + 3) L S n := kR_I (Or.inl rfl)
  rw [← e]; exact J_callV (As := [v1, v2]) ce_365 (by rw [hm]) rfl rfl (by decide +kernel) rfl rfl hd
theorem ce_366 : (12, 630, 1, 276, 2234, 0) ∈ calL := by decide +kernel
theorem c_366 {O : pO} {j n0 : Nat} {Q : pQ} {pc : Nat} {L : pL} {S : List pv} {n : Nat} {M : pM} {v1 v2 v3 : pv} (hm : mO j = 12) (hd : decode (mB j) pc = .ok (.invokestatic 630, 3)) : J O j n0 Q pc L (v3 :: v2 :: v1 :: S) n M = (stk S ≤ 8 ∧ mo O 276 [v1, v2, v3] n M (kI O j n0 Q (pc + 3) L S n)) := by
  have e : kR (mR 276) O j n0 Q (pc + 3) L S n = kI O j n0 Q (pc + 3) L S n := kR_I (Or.inl rfl)
  rw [← e]; exact J_callS (As := [v1, v2, v3]) ce_366 (by rw [hm]) rfl rfl (by decide +kernel) rfl rfl hd
theorem ce_367 : (13, 128, 0, 280, 2237, 0) ∈ calL := by decide +kernel
theorem c_367 {O : pO} {j n0 : Nat} {Q : pQ} {pc : Nat} {L : pL} {S : List pv} {n : Nat} {M : pM} {b : Nat} {v1 v2 : pv} (hm : mO j = 13) (hd : decode (mB j) pc = .ok (.invokevirtual 128, 3)) : J O j n0 Q pc L (v2 :: v1 :: vr (b + 1) :: S) n M = (ob n b = 12 ∧ stk S ≤ 8 ∧ mo O 280 [vr (b + 1), v1, v2] n M (kI O j n0 Q (pc + 3) L S n)) := by
  have e : kR (mR 280) O j n0 Q (pc + 3) L S n = kI O j n0 Q (pc + 3) L S n := kR_I (Or.inl rfl)
  rw [← e]; exact J_callV (As := [v1, v2]) ce_367 (by rw [hm]) rfl rfl (by decide +kernel) rfl rfl hd
theorem ce_368 : (12, 640, 0, 279, 2241, 0) ∈ calL := by decide +kernel
theorem c_368 {O : pO} {j n0 : Nat} {Q : pQ} {pc : Nat} {L : pL} {S : List pv} {n : Nat} {M : pM} {b : Nat} {v1 v2 : pv} (hm : mO j = 12) (hd : decode (mB j) pc = .ok (.invokevirtual 640, 3)) : J O j n0 Q pc L (v2 :: v1 :: vr (b + 1) :: S) n M = (ob n b = 12 ∧ stk S ≤ 8 ∧ mo O 279 [vr (b + 1), v1, v2] n M (kI O j n0 Q (pc + 3) L S n)) := by
  have e : kR (mR 279) O j n0 Q (pc + 3) L S n = kI O j n0 Q (pc + 3) L S n := kR_I (Or.inl rfl)
  rw [← e]; exact J_callV (As := [v1, v2]) ce_368 (by rw [hm]) rfl rfl (by decide +kernel) rfl rfl hd
theorem ce_369 : (13, 132, 0, 282, 2242, 0) ∈ calL := by decide +kernel
theorem c_369 {O : pO} {j n0 : Nat} {Q : pQ} {pc : Nat} {L : pL} {S : List pv} {n : Nat} {M : pM} {b : Nat} {v1 : pv} (hm : mO j = 13) (hd : decode (mB j) pc = .ok (.invokevirtual 132, 3)) : J O j n0 Q pc L (v1 :: vr (b + 1) :: S) n M = (ob n b = 12 ∧ stk S ≤ 8 ∧ mo O 282 [vr (b + 1), v1] n M (kI O j n0 Q (pc + 3) L S n)) := by
  have e : kR (mR 282) O j n0 Q (pc + 3) L S n = kI O j n0 Q (pc + 3) L S n := kR_I (Or.inl rfl)
  rw [← e]; exact J_callV (As := [v1]) ce_369 (by rw [hm]) rfl rfl (by decide +kernel) rfl rfl hd
theorem ce_370 : (13, 136, 0, 283, 2246, 0) ∈ calL := by decide +kernel
theorem c_370 {O : pO} {j n0 : Nat} {Q : pQ} {pc : Nat} {L : pL} {S : List pv} {n : Nat} {M : pM} {b : Nat} (hm : mO j = 13) (hd : decode (mB j) pc = .ok (.invokevirtual 136, 3)) : J O j n0 Q pc L (vr (b + 1) :: S) n M = (ob n b = 12 ∧ stk S ≤ 8 ∧ mo O 283 [vr (b + 1)] n M (kI O j n0 Q (pc + 3) L S n)) := by
  have e : kR (mR 283) O j n0 Q (pc + 3) L S n = kI O j n0 Q (pc + 3) L S n := kR_I (Or.inl rfl)
  rw [← e]; exact J_callV (As := []) ce_370 (by rw [hm]) rfl rfl (by decide +kernel) rfl rfl hd
theorem ce_371 : (13, 140, 0, 284, 2250, 0) ∈ calL := by decide +kernel
theorem c_371 {O : pO} {j n0 : Nat} {Q : pQ} {pc : Nat} {L : pL} {S : List pv} {n : Nat} {M : pM} {b : Nat} {v1 v2 : pv} (hm : mO j = 13) (hd : decode (mB j) pc = .ok (.invokevirtual 140, 3)) : J O j n0 Q pc L (v2 :: v1 :: vr (b + 1) :: S) n M = (ob n b = 12 ∧ stk S ≤ 8 ∧ mo O 284 [vr (b + 1), v1, v2] n M (kI O j n0 Q (pc + 3) L S n)) := by
  have e : kR (mR 284) O j n0 Q (pc + 3) L S n = kI O j n0 Q (pc + 3) L S n := kR_I (Or.inl rfl)
  rw [← e]; exact J_callV (As := [v1, v2]) ce_371 (by rw [hm]) rfl rfl (by decide +kernel) rfl rfl hd
theorem ce_372 : (13, 144, 0, 287, 2254, 0) ∈ calL := by decide +kernel
theorem c_372 {O : pO} {j n0 : Nat} {Q : pQ} {pc : Nat} {L : pL} {S : List pv} {n : Nat} {M : pM} {b : Nat} {v1 v2 : pv} (hm : mO j = 13) (hd : decode (mB j) pc = .ok (.invokevirtual 144, 3)) : J O j n0 Q pc L (v2 :: v1 :: vr (b + 1) :: S) n M = (ob n b = 12 ∧ stk S ≤ 8 ∧ mo O 287 [vr (b + 1), v1, v2] n M (kI O j n0 Q (pc + 3) L S n)) := by
  have e : kR (mR 287) O j n0 Q (pc + 3) L S n = kI O j n0 Q (pc + 3) L S n := kR_I (Or.inl rfl)
  rw [← e]; exact J_callV (As := [v1, v2]) ce_372 (by rw [hm]) rfl rfl (by decide +kernel) rfl rfl hd
theorem ce_373 : (12, 646, 0, 285, 2258, 0) ∈ calL := by decide +kernel
theorem c_373 {O : pO} {j n0 : Nat} {Q : pQ} {pc : Nat} {L : pL} {S : List pv} {n : Nat} {M : pM} {b : Nat} {v1 v2 : pv} (hm : mO j = 12) (hd : decode (mB j) pc = .ok (.invokevirtual 646, 3)) : J O j n0 Q pc L (v2 :: v1 :: vr (b + 1) :: S) n M = (ob n b = 12 ∧ stk S ≤ 8 ∧ mo O 285 [vr (b + 1), v1, v2] n M (kI O j n0 Q (pc + 3) L S n)) := by
  have e : kR (mR 285) O j n0 Q (pc + 3) L S n = kI O j n0 Q (pc + 3) L S n := kR_I (Or.inl rfl)
  rw [← e]; exact J_callV (As := [v1, v2]) ce_373 (by rw [hm]) rfl rfl (by decide +kernel) rfl rfl hd
theorem ce_374 : (12, 643, 0, 286, 2262, 0) ∈ calL := by decide +kernel
theorem c_374 {O : pO} {j n0 : Nat} {Q : pQ} {pc : Nat} {L : pL} {S : List pv} {n : Nat} {M : pM} {b : Nat} {v1 v2 v3 : pv} (hm : mO j = 12) (hd : decode (mB j) pc = .ok (.invokevirtual 643, 3)) : J O j n0 Q pc L (v3 :: v2 :: v1 :: vr (b + 1) :: S) n M = (ob n b = 12 ∧ stk S ≤ 8 ∧ mo O 286 [vr (b + 1), v1, v2, v3] n M (kI O j n0 Q (pc + 3) L S n)) := by
  have e : kR (mR 286) O j n0 Q (pc + 3) L S n = kI O j n0 Q (pc + 3) L S n := kR_I (Or.inl rfl)
  rw [← e]; exact J_callV (As := [v1, v2, v3]) ce_374 (by rw [hm]) rfl rfl (by decide +kernel) rfl rfl hd
theorem ce_375 : (13, 148, 0, 288, 2266, 0) ∈ calL := by decide +kernel
theorem c_375 {O : pO} {j n0 : Nat} {Q : pQ} {pc : Nat} {L : pL} {S : List pv} {n : Nat} {M : pM} {b : Nat} {v1 v2 v3 : pv} (hm : mO j = 13) (hd : decode (mB j) pc = .ok (.invokevirtual 148, 3)) : J O j n0 Q pc L (v3 :: v2 :: v1 :: vr (b + 1) :: S) n M = (ob n b = 12 ∧ stk S ≤ 8 ∧ mo O 288 [vr (b + 1), v1, v2, v3] n M (kI O j n0 Q (pc + 3) L S n)) := by
  have e : kR (mR 288) O j n0 Q (pc + 3) L S n = kI O j n0 Q (pc + 3) L S n := kR_I (Or.inl rfl)
  rw [← e]; exact J_callV (As := [v1, v2, v3]) ce_375 (by rw [hm]) rfl rfl (by decide +kernel) rfl rfl hd
theorem ce_376 : (13, 152, 0, 289, 2270, 0) ∈ calL := by decide +kernel
theorem c_376 {O : pO} {j n0 : Nat} {Q : pQ} {pc : Nat} {L : pL} {S : List pv} {n : Nat} {M : pM} {b : Nat} {v1 : pv} (hm : mO j = 13) (hd : decode (mB j) pc = .ok (.invokevirtual 152, 3)) : J O j n0 Q pc L (v1 :: vr (b + 1) :: S) n M = (ob n b = 12 ∧ stk S ≤ 8 ∧ mo O 289 [vr (b + 1), v1] n M (kI O j n0 Q (pc + 3) L S n)) := by
  have e : kR (mR 289) O j n0 Q (pc + 3) L S n = kI O j n0 Q (pc + 3) L S n := kR_I (Or.inl rfl)
  rw [← e]; exact J_callV (As := [v1]) ce_376 (by rw [hm]) rfl rfl (by decide +kernel) rfl rfl hd
theorem ce_377 : (13, 17, 0, 290, 2274, 0) ∈ calL := by decide +kernel
theorem c_377 {O : pO} {j n0 : Nat} {Q : pQ} {pc : Nat} {L : pL} {S : List pv} {n : Nat} {M : pM} {b : Nat} {v1 v2 v3 v4 v5 : pv} (hm : mO j = 13) (hd : decode (mB j) pc = .ok (.invokevirtual 17, 3)) : J O j n0 Q pc L (v5 :: v4 :: v3 :: v2 :: v1 :: vr (b + 1) :: S) n M = (ob n b = 12 ∧ stk S ≤ 8 ∧ mo O 290 [vr (b + 1), v1, v2, v3, v4, v5] n M (kI O j n0 Q (pc + 3) L S n)) := by
  have e : kR (mR 290) O j n0 Q (pc + 3) L S n = kI O j n0 Q (pc + 3) L S n := kR_I (Or.inl rfl)
  rw [← e]; exact J_callV (As := [v1, v2, v3, v4, v5]) ce_377 (by rw [hm]) rfl rfl (by decide +kernel) rfl rfl hd
theorem ce_378 : (13, 22, 0, 291, 2278, 0) ∈ calL := by decide +kernel
theorem c_378 {O : pO} {j n0 : Nat} {Q : pQ} {pc : Nat} {L : pL} {S : List pv} {n : Nat} {M : pM} {b : Nat} {v1 : pv} (hm : mO j = 13) (hd : decode (mB j) pc = .ok (.invokevirtual 22, 3)) : J O j n0 Q pc L (v1 :: vr (b + 1) :: S) n M = (ob n b = 12 ∧ stk S ≤ 8 ∧ mo O 291 [vr (b + 1), v1] n M (kI O j n0 Q (pc + 3) L S n)) := by
  have e : kR (mR 291) O j n0 Q (pc + 3) L S n = kI O j n0 Q (pc + 3) L S n := kR_I (Or.inl rfl)
  rw [← e]; exact J_callV (As := [v1]) ce_378 (by rw [hm]) rfl rfl (by decide +kernel) rfl rfl hd
theorem nw_0 {O : pO} {j n0 : Nat} {Q : pQ} {pc : Nat} {L : pL} {S : List pv} {n : Nat} {M : pM} (hm : mO j = 13) (hd : decode (mB j) pc = .ok (.new 7, 3)) : J O j n0 Q pc L S n M = (n < 119 ∧ n + 1 ≤ n0 + mC j ∧ SH n = .inl 11 ∧ J O j n0 Q (pc + 3) L (vr (n + 1) :: S) (n + 1) (zr M n)) := J_new (q := (13, 7, 11, 16, 211, 212, 188)) (by decide +kernel) (by rw [hm]) hd
theorem nw_1 {O : pO} {j n0 : Nat} {Q : pQ} {pc : Nat} {L : pL} {S : List pv} {n : Nat} {M : pM} (hm : mO j = 11) (hd : decode (mB j) pc = .ok (.new 13, 3)) : J O j n0 Q pc L S n M = (n < 119 ∧ n + 1 ≤ n0 + mC j ∧ SH n = .inl 7 ∧ J O j n0 Q (pc + 3) L (vr (n + 1) :: S) (n + 1) (zr M n)) := J_new (q := (11, 13, 7, 9, 219, 220, 189)) (by decide +kernel) (by rw [hm]) hd
theorem nw_2 {O : pO} {j n0 : Nat} {Q : pQ} {pc : Nat} {L : pL} {S : List pv} {n : Nat} {M : pM} (hm : mO j = 11) (hd : decode (mB j) pc = .ok (.new 22, 3)) : J O j n0 Q pc L S n M = (n < 119 ∧ n + 1 ≤ n0 + mC j ∧ SH n = .inl 4 ∧ J O j n0 Q (pc + 3) L (vr (n + 1) :: S) (n + 1) (zr M n)) := J_new (q := (11, 22, 4, 15, 260, 261, 190)) (by decide +kernel) (by rw [hm]) hd
theorem nw_3 {O : pO} {j n0 : Nat} {Q : pQ} {pc : Nat} {L : pL} {S : List pv} {n : Nat} {M : pM} (hm : mO j = 11) (hd : decode (mB j) pc = .ok (.new 32, 3)) : J O j n0 Q pc L S n M = (n < 119 ∧ n + 1 ≤ n0 + mC j ∧ SH n = .inl 5 ∧ J O j n0 Q (pc + 3) L (vr (n + 1) :: S) (n + 1) (zr M n)) := J_new (q := (11, 32, 5, 2, 340, 341, 192)) (by decide +kernel) (by rw [hm]) hd
theorem nw_4 {O : pO} {j n0 : Nat} {Q : pQ} {pc : Nat} {L : pL} {S : List pv} {n : Nat} {M : pM} (hm : mO j = 11) (hd : decode (mB j) pc = .ok (.new 41, 3)) : J O j n0 Q pc L S n M = (n < 119 ∧ n + 1 ≤ n0 + mC j ∧ SH n = .inl 3 ∧ J O j n0 Q (pc + 3) L (vr (n + 1) :: S) (n + 1) (zr M n)) := J_new (q := (11, 41, 3, 7, 353, 354, 193)) (by decide +kernel) (by rw [hm]) hd
theorem nw_5 {O : pO} {j n0 : Nat} {Q : pQ} {pc : Nat} {L : pL} {S : List pv} {n : Nat} {M : pM} (hm : mO j = 11) (hd : decode (mB j) pc = .ok (.new 54, 3)) : J O j n0 Q pc L S n M = (n < 119 ∧ n + 1 ≤ n0 + mC j ∧ SH n = .inl 0 ∧ J O j n0 Q (pc + 3) L (vr (n + 1) :: S) (n + 1) (zr M n)) := J_new (q := (11, 54, 0, 3, 382, 383, 194)) (by decide +kernel) (by rw [hm]) hd
theorem nw_6 {O : pO} {j n0 : Nat} {Q : pQ} {pc : Nat} {L : pL} {S : List pv} {n : Nat} {M : pM} (hm : mO j = 11) (hd : decode (mB j) pc = .ok (.new 61, 3)) : J O j n0 Q pc L S n M = (n < 119 ∧ n + 1 ≤ n0 + mC j ∧ SH n = .inl 1 ∧ J O j n0 Q (pc + 3) L (vr (n + 1) :: S) (n + 1) (zr M n)) := J_new (q := (11, 61, 1, 17, 402, 403, 195)) (by decide +kernel) (by rw [hm]) hd
theorem nw_7 {O : pO} {j n0 : Nat} {Q : pQ} {pc : Nat} {L : pL} {S : List pv} {n : Nat} {M : pM} (hm : mO j = 1) (hd : decode (mB j) pc = .ok (.new 25, 3)) : J O j n0 Q pc L S n M = (n < 119 ∧ n + 1 ≤ n0 + mC j ∧ SH n = .inl 0 ∧ J O j n0 Q (pc + 3) L (vr (n + 1) :: S) (n + 1) (zr M n)) := J_new (q := (1, 25, 0, 3, 408, 383, 194)) (by decide +kernel) (by rw [hm]) hd
theorem nw_8 {O : pO} {j n0 : Nat} {Q : pQ} {pc : Nat} {L : pL} {S : List pv} {n : Nat} {M : pM} (hm : mO j = 11) (hd : decode (mB j) pc = .ok (.new 70, 3)) : J O j n0 Q pc L S n M = (n < 119 ∧ n + 1 ≤ n0 + mC j ∧ SH n = .inl 2 ∧ J O j n0 Q (pc + 3) L (vr (n + 1) :: S) (n + 1) (zr M n)) := J_new (q := (11, 70, 2, 9, 472, 473, 196)) (by decide +kernel) (by rw [hm]) hd
theorem nw_9 {O : pO} {j n0 : Nat} {Q : pQ} {pc : Nat} {L : pL} {S : List pv} {n : Nat} {M : pM} (hm : mO j = 11) (hd : decode (mB j) pc = .ok (.new 77, 3)) : J O j n0 Q pc L S n M = (n < 119 ∧ n + 1 ≤ n0 + mC j ∧ SH n = .inl 9 ∧ J O j n0 Q (pc + 3) L (vr (n + 1) :: S) (n + 1) (zr M n)) := J_new (q := (11, 77, 9, 10, 507, 508, 197)) (by decide +kernel) (by rw [hm]) hd
theorem nw_10 {O : pO} {j n0 : Nat} {Q : pQ} {pc : Nat} {L : pL} {S : List pv} {n : Nat} {M : pM} (hm : mO j = 11) (hd : decode (mB j) pc = .ok (.new 84, 3)) : J O j n0 Q pc L S n M = (n < 119 ∧ n + 1 ≤ n0 + mC j ∧ SH n = .inl 8 ∧ J O j n0 Q (pc + 3) L (vr (n + 1) :: S) (n + 1) (zr M n)) := J_new (q := (11, 84, 8, 7, 554, 555, 198)) (by decide +kernel) (by rw [hm]) hd
theorem nw_11 {O : pO} {j n0 : Nat} {Q : pQ} {pc : Nat} {L : pL} {S : List pv} {n : Nat} {M : pM} (hm : mO j = 11) (hd : decode (mB j) pc = .ok (.new 91, 3)) : J O j n0 Q pc L S n M = (n < 119 ∧ n + 1 ≤ n0 + mC j ∧ SH n = .inl 6 ∧ J O j n0 Q (pc + 3) L (vr (n + 1) :: S) (n + 1) (zr M n)) := J_new (q := (11, 91, 6, 1, 585, 586, 199)) (by decide +kernel) (by rw [hm]) hd
theorem nw_12 {O : pO} {j n0 : Nat} {Q : pQ} {pc : Nat} {L : pL} {S : List pv} {n : Nat} {M : pM} (hm : mO j = 11) (hd : decode (mB j) pc = .ok (.new 98, 3)) : J O j n0 Q pc L S n M = (n < 119 ∧ n + 1 ≤ n0 + mC j ∧ SH n = .inl 10 ∧ J O j n0 Q (pc + 3) L (vr (n + 1) :: S) (n + 1) (zr M n)) := J_new (q := (11, 98, 10, 7, 595, 596, 200)) (by decide +kernel) (by rw [hm]) hd
theorem nw_13 {O : pO} {j n0 : Nat} {Q : pQ} {pc : Nat} {L : pL} {S : List pv} {n : Nat} {M : pM} (hm : mO j = 13) (hd : decode (mB j) pc = .ok (.new 10, 3)) : J O j n0 Q pc L S n M = (n < 119 ∧ n + 1 ≤ n0 + mC j ∧ SH n = .inl 12 ∧ J O j n0 Q (pc + 3) L (vr (n + 1) :: S) (n + 1) (zr M n)) := J_new (q := (13, 10, 12, 100, 1490, 1491, 201)) (by decide +kernel) (by rw [hm]) hd
theorem oi_0 {O : pO} {j n0 : Nat} {Q : pQ} {pc : Nat} {L : pL} {S : List pv} {n : Nat} {M : pM} {b : Nat} (hm : mO j = 11) (hd : decode (mB j) pc = .ok (.invokespecial 1, 3)) : J O j n0 Q pc L (vr (b + 1) :: S) n M = (stk S ≤ 8 ∧ J O j n0 Q (pc + 3) L S n M) := J_objE (q := (11, 1, 216)) (by decide +kernel) (by rw [hm]) (by rw [hm]; decide +kernel) hd
theorem oi_1 {O : pO} {j n0 : Nat} {Q : pQ} {pc : Nat} {L : pL} {S : List pv} {n : Nat} {M : pM} {b : Nat} (hm : mO j = 7) (hd : decode (mB j) pc = .ok (.invokespecial 3, 3)) : J O j n0 Q pc L (vr (b + 1) :: S) n M = (stk S ≤ 8 ∧ J O j n0 Q (pc + 3) L S n M) := J_objE (q := (7, 3, 224)) (by decide +kernel) (by rw [hm]) (by rw [hm]; decide +kernel) hd
theorem oi_2 {O : pO} {j n0 : Nat} {Q : pQ} {pc : Nat} {L : pL} {S : List pv} {n : Nat} {M : pM} {b : Nat} (hm : mO j = 4) (hd : decode (mB j) pc = .ok (.invokespecial 3, 3)) : J O j n0 Q pc L (vr (b + 1) :: S) n M = (stk S ≤ 8 ∧ J O j n0 Q (pc + 3) L S n M) := J_objE (q := (4, 3, 265)) (by decide +kernel) (by rw [hm]) (by rw [hm]; decide +kernel) hd
theorem oi_3 {O : pO} {j n0 : Nat} {Q : pQ} {pc : Nat} {L : pL} {S : List pv} {n : Nat} {M : pM} {b : Nat} (hm : mO j = 5) (hd : decode (mB j) pc = .ok (.invokespecial 3, 3)) : J O j n0 Q pc L (vr (b + 1) :: S) n M = (stk S ≤ 8 ∧ J O j n0 Q (pc + 3) L S n M) := J_objE (q := (5, 3, 345)) (by decide +kernel) (by rw [hm]) (by rw [hm]; decide +kernel) hd
theorem oi_4 {O : pO} {j n0 : Nat} {Q : pQ} {pc : Nat} {L : pL} {S : List pv} {n : Nat} {M : pM} {b : Nat} (hm : mO j = 3) (hd : decode (mB j) pc = .ok (.invokespecial 3, 3)) : J O j n0 Q pc L (vr (b + 1) :: S) n M = (stk S ≤ 8 ∧ J O j n0 Q (pc + 3) L S n M) := J_objE (q := (3, 3, 358)) (by decide +kernel) (by rw [hm]) (by rw [hm]; decide +kernel) hd
theorem oi_5 {O : pO} {j n0 : Nat} {Q : pQ} {pc : Nat} {L : pL} {S : List pv} {n : Nat} {M : pM} {b : Nat} (hm : mO j = 0) (hd : decode (mB j) pc = .ok (.invokespecial 3, 3)) : J O j n0 Q pc L (vr (b + 1) :: S) n M = (stk S ≤ 8 ∧ J O j n0 Q (pc + 3) L S n M) := J_objE (q := (0, 3, 387)) (by decide +kernel) (by rw [hm]) (by rw [hm]; decide +kernel) hd
theorem oi_6 {O : pO} {j n0 : Nat} {Q : pQ} {pc : Nat} {L : pL} {S : List pv} {n : Nat} {M : pM} {b : Nat} (hm : mO j = 1) (hd : decode (mB j) pc = .ok (.invokespecial 5, 3)) : J O j n0 Q pc L (vr (b + 1) :: S) n M = (stk S ≤ 8 ∧ J O j n0 Q (pc + 3) L S n M) := J_objE (q := (1, 5, 407)) (by decide +kernel) (by rw [hm]) (by rw [hm]; decide +kernel) hd
theorem oi_7 {O : pO} {j n0 : Nat} {Q : pQ} {pc : Nat} {L : pL} {S : List pv} {n : Nat} {M : pM} {b : Nat} (hm : mO j = 2) (hd : decode (mB j) pc = .ok (.invokespecial 3, 3)) : J O j n0 Q pc L (vr (b + 1) :: S) n M = (stk S ≤ 8 ∧ J O j n0 Q (pc + 3) L S n M) := J_objE (q := (2, 3, 477)) (by decide +kernel) (by rw [hm]) (by rw [hm]; decide +kernel) hd
theorem oi_8 {O : pO} {j n0 : Nat} {Q : pQ} {pc : Nat} {L : pL} {S : List pv} {n : Nat} {M : pM} {b : Nat} (hm : mO j = 9) (hd : decode (mB j) pc = .ok (.invokespecial 3, 3)) : J O j n0 Q pc L (vr (b + 1) :: S) n M = (stk S ≤ 8 ∧ J O j n0 Q (pc + 3) L S n M) := J_objE (q := (9, 3, 512)) (by decide +kernel) (by rw [hm]) (by rw [hm]; decide +kernel) hd
theorem oi_9 {O : pO} {j n0 : Nat} {Q : pQ} {pc : Nat} {L : pL} {S : List pv} {n : Nat} {M : pM} {b : Nat} (hm : mO j = 8) (hd : decode (mB j) pc = .ok (.invokespecial 3, 3)) : J O j n0 Q pc L (vr (b + 1) :: S) n M = (stk S ≤ 8 ∧ J O j n0 Q (pc + 3) L S n M) := J_objE (q := (8, 3, 559)) (by decide +kernel) (by rw [hm]) (by rw [hm]; decide +kernel) hd
theorem oi_10 {O : pO} {j n0 : Nat} {Q : pQ} {pc : Nat} {L : pL} {S : List pv} {n : Nat} {M : pM} {b : Nat} (hm : mO j = 6) (hd : decode (mB j) pc = .ok (.invokespecial 3, 3)) : J O j n0 Q pc L (vr (b + 1) :: S) n M = (stk S ≤ 8 ∧ J O j n0 Q (pc + 3) L S n M) := J_objE (q := (6, 3, 590)) (by decide +kernel) (by rw [hm]) (by rw [hm]; decide +kernel) hd
theorem oi_11 {O : pO} {j n0 : Nat} {Q : pQ} {pc : Nat} {L : pL} {S : List pv} {n : Nat} {M : pM} {b : Nat} (hm : mO j = 10) (hd : decode (mB j) pc = .ok (.invokespecial 3, 3)) : J O j n0 Q pc L (vr (b + 1) :: S) n M = (stk S ≤ 8 ∧ J O j n0 Q (pc + 3) L S n M) := J_objE (q := (10, 3, 600)) (by decide +kernel) (by rw [hm]) (by rw [hm]; decide +kernel) hd
theorem oi_12 {O : pO} {j n0 : Nat} {Q : pQ} {pc : Nat} {L : pL} {S : List pv} {n : Nat} {M : pM} {b : Nat} (hm : mO j = 12) (hd : decode (mB j) pc = .ok (.invokespecial 164, 3)) : J O j n0 Q pc L (vr (b + 1) :: S) n M = (stk S ≤ 8 ∧ J O j n0 Q (pc + 3) L S n M) := J_objE (q := (12, 164, 1495)) (by decide +kernel) (by rw [hm]) (by rw [hm]; decide +kernel) hd
theorem gs_0 {O : pO} {j n0 : Nat} {Q : pQ} {pc : Nat} {L : pL} {S : List pv} {n : Nat} {M : pM} (hm : mO j = 11) (hd : decode (mB j) pc = .ok (.getstatic 341, 3)) : J O j n0 Q pc L S n M = J O j n0 Q (pc + 3) L (vr 1001 :: S) n M := J_gs (q := (11, 341, 0, 413)) (by decide +kernel) (by rw [hm]) hd
theorem gs_1 {O : pO} {j n0 : Nat} {Q : pQ} {pc : Nat} {L : pL} {S : List pv} {n : Nat} {M : pM} (hm : mO j = 11) (hd : decode (mB j) pc = .ok (.getstatic 344, 3)) : J O j n0 Q pc L S n M = J O j n0 Q (pc + 3) L (vr 1002 :: S) n M := J_gs (q := (11, 344, 1, 415)) (by decide +kernel) (by rw [hm]) hd
theorem gs_2 {O : pO} {j n0 : Nat} {Q : pQ} {pc : Nat} {L : pL} {S : List pv} {n : Nat} {M : pM} (hm : mO j = 4) (hd : decode (mB j) pc = .ok (.getstatic 83, 3)) : J O j n0 Q pc L S n M = J O j n0 Q (pc + 3) L (vr 1001 :: S) n M := J_gs (q := (4, 83, 0, 1070)) (by decide +kernel) (by rw [hm]) hd
theorem gs_3 {O : pO} {j n0 : Nat} {Q : pQ} {pc : Nat} {L : pL} {S : List pv} {n : Nat} {M : pM} (hm : mO j = 4) (hd : decode (mB j) pc = .ok (.getstatic 86, 3)) : J O j n0 Q pc L S n M = J O j n0 Q (pc + 3) L (vr 1002 :: S) n M := J_gs (q := (4, 86, 1, 1071)) (by decide +kernel) (by rw [hm]) hd
theorem cn_0 {O : pO} {j n0 : Nat} {Q : pQ} {pc : Nat} {L : pL} {S : List pv} {n : Nat} {M : pM} (hm : mO j = 16) (hd : decode (mB j) pc = .ok (.ldc 227, 2)) : J O j n0 Q pc L S n M = J O j n0 Q (pc + 2) L (vi 65536 :: S) n M := J_ldc (q := (16, 227, 65536, 799)) (by decide +kernel) (by rw [hm]) hd
theorem cn_1 {O : pO} {j n0 : Nat} {Q : pQ} {pc : Nat} {L : pL} {S : List pv} {n : Nat} {M : pM} (hm : mO j = 22) (hd : decode (mB j) pc = .ok (.ldc 110, 2)) : J O j n0 Q pc L S n M = J O j n0 Q (pc + 2) L (vi 55232 :: S) n M := J_ldc (q := (22, 110, 55232, 824)) (by decide +kernel) (by rw [hm]) hd
theorem cn_2 {O : pO} {j n0 : Nat} {Q : pQ} {pc : Nat} {L : pL} {S : List pv} {n : Nat} {M : pM} (hm : mO j = 22) (hd : decode (mB j) pc = .ok (.ldc 76, 2)) : J O j n0 Q pc L S n M = J O j n0 Q (pc + 2) L (vi 56320 :: S) n M := J_ldc (q := (22, 76, 56320, 828)) (by decide +kernel) (by rw [hm]) hd
theorem cn_3 {O : pO} {j n0 : Nat} {Q : pQ} {pc : Nat} {L : pL} {S : List pv} {n : Nat} {M : pM} (hm : mO j = 9) (hd : decode (mB j) pc = .ok (.ldc 43, 2)) : J O j n0 Q pc L S n M = J O j n0 Q (pc + 2) L (vi 100000 :: S) n M := J_ldc (q := (9, 43, 100000, 1288)) (by decide +kernel) (by rw [hm]) hd
theorem cn_4 {O : pO} {j n0 : Nat} {Q : pQ} {pc : Nat} {L : pL} {S : List pv} {n : Nat} {M : pM} (hm : mO j = 18) (hd : decode (mB j) pc = .ok (.ldc 265, 2)) : J O j n0 Q pc L S n M = J O j n0 Q (pc + 2) L (vi 1431655765 :: S) n M := J_ldc (q := (18, 265, 1431655765, 1405)) (by decide +kernel) (by rw [hm]) hd
theorem cn_5 {O : pO} {j n0 : Nat} {Q : pQ} {pc : Nat} {L : pL} {S : List pv} {n : Nat} {M : pM} (hm : mO j = 18) (hd : decode (mB j) pc = .ok (.ldc 266, 2)) : J O j n0 Q pc L S n M = J O j n0 Q (pc + 2) L (vi 858993459 :: S) n M := J_ldc (q := (18, 266, 858993459, 1406)) (by decide +kernel) (by rw [hm]) hd
theorem cn_6 {O : pO} {j n0 : Nat} {Q : pQ} {pc : Nat} {L : pL} {S : List pv} {n : Nat} {M : pM} (hm : mO j = 18) (hd : decode (mB j) pc = .ok (.ldc 267, 2)) : J O j n0 Q pc L S n M = J O j n0 Q (pc + 2) L (vi 252645135 :: S) n M := J_ldc (q := (18, 267, 252645135, 1407)) (by decide +kernel) (by rw [hm]) hd
theorem cn_7 {O : pO} {j n0 : Nat} {Q : pQ} {pc : Nat} {L : pL} {S : List pv} {n : Nat} {M : pM} (hm : mO j = 10) (hd : decode (mB j) pc = .ok (.ldc 35, 2)) : J O j n0 Q pc L S n M = J O j n0 Q (pc + 2) L (vi 1000000 :: S) n M := J_ldc (q := (10, 35, 1000000, 1459)) (by decide +kernel) (by rw [hm]) hd
theorem cn_8 {O : pO} {j n0 : Nat} {Q : pQ} {pc : Nat} {L : pL} {S : List pv} {n : Nat} {M : pM} (hm : mO j = 12) (hd : decode (mB j) pc = .ok (.ldc 203, 2)) : J O j n0 Q pc L S n M = J O j n0 Q (pc + 2) L (vi 388352 :: S) n M := J_ldc (q := (12, 203, 388352, 1496)) (by decide +kernel) (by rw [hm]) hd
theorem cn_9 {O : pO} {j n0 : Nat} {Q : pQ} {pc : Nat} {L : pL} {S : List pv} {n : Nat} {M : pM} (hm : mO j = 12) (hd : decode (mB j) pc = .ok (.ldc 216, 2)) : J O j n0 Q pc L S n M = J O j n0 Q (pc + 2) L (vi 97088 :: S) n M := J_ldc (q := (12, 216, 97088, 1497)) (by decide +kernel) (by rw [hm]) hd
theorem cn_10 {O : pO} {j n0 : Nat} {Q : pQ} {pc : Nat} {L : pL} {S : List pv} {n : Nat} {M : pM} (hm : mO j = 12) (hd : decode (mB j) pc = .ok (.ldc 509, 2)) : J O j n0 Q pc L S n M = J O j n0 Q (pc + 2) L (vi 100000 :: S) n M := J_ldc (q := (12, 509, 100000, 1506)) (by decide +kernel) (by rw [hm]) hd
theorem cnw_0 {O : pO} {j n0 : Nat} {Q : pQ} {pc : Nat} {L : pL} {S : List pv} {n : Nat} {M : pM} (hm : mO j = 16) (hd : decode (mB j) pc = .ok (.ldc_w 227, 3)) : J O j n0 Q pc L S n M = J O j n0 Q (pc + 3) L (vi 65536 :: S) n M := J_ldc_w (q := (16, 227, 65536, 799)) (by decide +kernel) (by rw [hm]) hd
theorem cnw_1 {O : pO} {j n0 : Nat} {Q : pQ} {pc : Nat} {L : pL} {S : List pv} {n : Nat} {M : pM} (hm : mO j = 22) (hd : decode (mB j) pc = .ok (.ldc_w 110, 3)) : J O j n0 Q pc L S n M = J O j n0 Q (pc + 3) L (vi 55232 :: S) n M := J_ldc_w (q := (22, 110, 55232, 824)) (by decide +kernel) (by rw [hm]) hd
theorem cnw_2 {O : pO} {j n0 : Nat} {Q : pQ} {pc : Nat} {L : pL} {S : List pv} {n : Nat} {M : pM} (hm : mO j = 22) (hd : decode (mB j) pc = .ok (.ldc_w 76, 3)) : J O j n0 Q pc L S n M = J O j n0 Q (pc + 3) L (vi 56320 :: S) n M := J_ldc_w (q := (22, 76, 56320, 828)) (by decide +kernel) (by rw [hm]) hd
theorem cnw_3 {O : pO} {j n0 : Nat} {Q : pQ} {pc : Nat} {L : pL} {S : List pv} {n : Nat} {M : pM} (hm : mO j = 9) (hd : decode (mB j) pc = .ok (.ldc_w 43, 3)) : J O j n0 Q pc L S n M = J O j n0 Q (pc + 3) L (vi 100000 :: S) n M := J_ldc_w (q := (9, 43, 100000, 1288)) (by decide +kernel) (by rw [hm]) hd
theorem cnw_4 {O : pO} {j n0 : Nat} {Q : pQ} {pc : Nat} {L : pL} {S : List pv} {n : Nat} {M : pM} (hm : mO j = 18) (hd : decode (mB j) pc = .ok (.ldc_w 265, 3)) : J O j n0 Q pc L S n M = J O j n0 Q (pc + 3) L (vi 1431655765 :: S) n M := J_ldc_w (q := (18, 265, 1431655765, 1405)) (by decide +kernel) (by rw [hm]) hd
theorem cnw_5 {O : pO} {j n0 : Nat} {Q : pQ} {pc : Nat} {L : pL} {S : List pv} {n : Nat} {M : pM} (hm : mO j = 18) (hd : decode (mB j) pc = .ok (.ldc_w 266, 3)) : J O j n0 Q pc L S n M = J O j n0 Q (pc + 3) L (vi 858993459 :: S) n M := J_ldc_w (q := (18, 266, 858993459, 1406)) (by decide +kernel) (by rw [hm]) hd
theorem cnw_6 {O : pO} {j n0 : Nat} {Q : pQ} {pc : Nat} {L : pL} {S : List pv} {n : Nat} {M : pM} (hm : mO j = 18) (hd : decode (mB j) pc = .ok (.ldc_w 267, 3)) : J O j n0 Q pc L S n M = J O j n0 Q (pc + 3) L (vi 252645135 :: S) n M := J_ldc_w (q := (18, 267, 252645135, 1407)) (by decide +kernel) (by rw [hm]) hd
theorem cnw_7 {O : pO} {j n0 : Nat} {Q : pQ} {pc : Nat} {L : pL} {S : List pv} {n : Nat} {M : pM} (hm : mO j = 10) (hd : decode (mB j) pc = .ok (.ldc_w 35, 3)) : J O j n0 Q pc L S n M = J O j n0 Q (pc + 3) L (vi 1000000 :: S) n M := J_ldc_w (q := (10, 35, 1000000, 1459)) (by decide +kernel) (by rw [hm]) hd
theorem cnw_8 {O : pO} {j n0 : Nat} {Q : pQ} {pc : Nat} {L : pL} {S : List pv} {n : Nat} {M : pM} (hm : mO j = 12) (hd : decode (mB j) pc = .ok (.ldc_w 203, 3)) : J O j n0 Q pc L S n M = J O j n0 Q (pc + 3) L (vi 388352 :: S) n M := J_ldc_w (q := (12, 203, 388352, 1496)) (by decide +kernel) (by rw [hm]) hd
theorem cnw_9 {O : pO} {j n0 : Nat} {Q : pQ} {pc : Nat} {L : pL} {S : List pv} {n : Nat} {M : pM} (hm : mO j = 12) (hd : decode (mB j) pc = .ok (.ldc_w 216, 3)) : J O j n0 Q pc L S n M = J O j n0 Q (pc + 3) L (vi 97088 :: S) n M := J_ldc_w (q := (12, 216, 97088, 1497)) (by decide +kernel) (by rw [hm]) hd
theorem cnw_10 {O : pO} {j n0 : Nat} {Q : pQ} {pc : Nat} {L : pL} {S : List pv} {n : Nat} {M : pM} (hm : mO j = 12) (hd : decode (mB j) pc = .ok (.ldc_w 509, 3)) : J O j n0 Q pc L S n M = J O j n0 Q (pc + 3) L (vi 100000 :: S) n M := J_ldc_w (q := (12, 509, 100000, 1506)) (by decide +kernel) (by rw [hm]) hd
theorem cln_0 {O : pO} {j n0 : Nat} {Q : pQ} {pc : Nat} {L : pL} {S : List pv} {n : Nat} {M : pM} (hm : mO j = 7) (hd : decode (mB j) pc = .ok (.ldc2_w 76, 3)) : J O j n0 Q pc L S n M = J O j n0 Q (pc + 3) L (vl 32 :: S) n M := J_ldc2_w (q := (7, 76, 32, 912)) (by decide +kernel) (by rw [hm]) hd
theorem cln_1 {O : pO} {j n0 : Nat} {Q : pQ} {pc : Nat} {L : pL} {S : List pv} {n : Nat} {M : pM} (hm : mO j = 1) (hd : decode (mB j) pc = .ok (.ldc2_w 117, 3)) : J O j n0 Q pc L S n M = J O j n0 Q (pc + 3) L (vl 2 :: S) n M := J_ldc2_w (q := (1, 117, 2, 1147)) (by decide +kernel) (by rw [hm]) hd
theorem cln_2 {O : pO} {j n0 : Nat} {Q : pQ} {pc : Nat} {L : pL} {S : List pv} {n : Nat} {M : pM} (hm : mO j = 1) (hd : decode (mB j) pc = .ok (.ldc2_w 129, 3)) : J O j n0 Q pc L S n M = J O j n0 Q (pc + 3) L (vl (-1) :: S) n M := J_ldc2_w (q := (1, 129, -1, 1157)) (by decide +kernel) (by rw [hm]) hd
theorem cln_3 {O : pO} {j n0 : Nat} {Q : pQ} {pc : Nat} {L : pL} {S : List pv} {n : Nat} {M : pM} (hm : mO j = 23) (hd : decode (mB j) pc = .ok (.ldc2_w 314, 3)) : J O j n0 Q pc L S n M = J O j n0 Q (pc + 3) L (vl 6148914691236517205 :: S) n M := J_ldc2_w (q := (23, 314, 6148914691236517205, 1216)) (by decide +kernel) (by rw [hm]) hd
theorem cln_4 {O : pO} {j n0 : Nat} {Q : pQ} {pc : Nat} {L : pL} {S : List pv} {n : Nat} {M : pM} (hm : mO j = 23) (hd : decode (mB j) pc = .ok (.ldc2_w 316, 3)) : J O j n0 Q pc L S n M = J O j n0 Q (pc + 3) L (vl 3689348814741910323 :: S) n M := J_ldc2_w (q := (23, 316, 3689348814741910323, 1217)) (by decide +kernel) (by rw [hm]) hd
theorem cln_5 {O : pO} {j n0 : Nat} {Q : pQ} {pc : Nat} {L : pL} {S : List pv} {n : Nat} {M : pM} (hm : mO j = 23) (hd : decode (mB j) pc = .ok (.ldc2_w 318, 3)) : J O j n0 Q pc L S n M = J O j n0 Q (pc + 3) L (vl 1085102592571150095 :: S) n M := J_ldc2_w (q := (23, 318, 1085102592571150095, 1218)) (by decide +kernel) (by rw [hm]) hd
theorem cln_6 {O : pO} {j n0 : Nat} {Q : pQ} {pc : Nat} {L : pL} {S : List pv} {n : Nat} {M : pM} (hm : mO j = 12) (hd : decode (mB j) pc = .ok (.ldc2_w 17, 3)) : J O j n0 Q pc L S n M = J O j n0 Q (pc + 3) L (vl 7499639 :: S) n M := J_ldc2_w (q := (12, 17, 7499639, 1831)) (by decide +kernel) (by rw [hm]) hd
theorem cln_7 {O : pO} {j n0 : Nat} {Q : pQ} {pc : Nat} {L : pL} {S : List pv} {n : Nat} {M : pM} (hm : mO j = 12) (hd : decode (mB j) pc = .ok (.ldc2_w 19, 3)) : J O j n0 Q pc L S n M = J O j n0 Q (pc + 3) L (vl 1818846836 :: S) n M := J_ldc2_w (q := (12, 19, 1818846836, 1832)) (by decide +kernel) (by rw [hm]) hd
theorem cln_8 {O : pO} {j n0 : Nat} {Q : pQ} {pc : Nat} {L : pL} {S : List pv} {n : Nat} {M : pM} (hm : mO j = 12) (hd : decode (mB j) pc = .ok (.ldc2_w 21, 3)) : J O j n0 Q pc L S n M = J O j n0 Q (pc + 3) L (vl 2003398244 :: S) n M := J_ldc2_w (q := (12, 21, 2003398244, 1833)) (by decide +kernel) (by rw [hm]) hd
theorem cln_9 {O : pO} {j n0 : Nat} {Q : pQ} {pc : Nat} {L : pL} {S : List pv} {n : Nat} {M : pM} (hm : mO j = 12) (hd : decode (mB j) pc = .ok (.ldc2_w 23, 3)) : J O j n0 Q pc L S n M = J O j n0 Q (pc + 3) L (vl 7630704 :: S) n M := J_ldc2_w (q := (12, 23, 7630704, 1834)) (by decide +kernel) (by rw [hm]) hd
theorem cln_10 {O : pO} {j n0 : Nat} {Q : pQ} {pc : Nat} {L : pL} {S : List pv} {n : Nat} {M : pM} (hm : mO j = 12) (hd : decode (mB j) pc = .ok (.ldc2_w 25, 3)) : J O j n0 Q pc L S n M = J O j n0 Q (pc + 3) L (vl 2002873452 :: S) n M := J_ldc2_w (q := (12, 25, 2002873452, 1835)) (by decide +kernel) (by rw [hm]) hd
theorem cln_11 {O : pO} {j n0 : Nat} {Q : pQ} {pc : Nat} {L : pL} {S : List pv} {n : Nat} {M : pM} (hm : mO j = 12) (hd : decode (mB j) pc = .ok (.ldc2_w 27, 3)) : J O j n0 Q pc L S n M = J O j n0 Q (pc + 3) L (vl 418263299685 :: S) n M := J_ldc2_w (q := (12, 27, 418263299685, 1836)) (by decide +kernel) (by rw [hm]) hd
theorem cln_12 {O : pO} {j n0 : Nat} {Q : pQ} {pc : Nat} {L : pL} {S : List pv} {n : Nat} {M : pM} (hm : mO j = 12) (hd : decode (mB j) pc = .ok (.ldc2_w 29, 3)) : J O j n0 Q pc L S n M = J O j n0 Q (pc + 3) L (vl 1718775661 :: S) n M := J_ldc2_w (q := (12, 29, 1718775661, 1837)) (by decide +kernel) (by rw [hm]) hd
theorem cln_13 {O : pO} {j n0 : Nat} {Q : pQ} {pc : Nat} {L : pL} {S : List pv} {n : Nat} {M : pM} (hm : mO j = 12) (hd : decode (mB j) pc = .ok (.ldc2_w 31, 3)) : J O j n0 Q pc L S n M = J O j n0 Q (pc + 3) L (vl 29807 :: S) n M := J_ldc2_w (q := (12, 31, 29807, 1838)) (by decide +kernel) (by rw [hm]) hd
theorem cln_14 {O : pO} {j n0 : Nat} {Q : pQ} {pc : Nat} {L : pL} {S : List pv} {n : Nat} {M : pM} (hm : mO j = 12) (hd : decode (mB j) pc = .ok (.ldc2_w 33, 3)) : J O j n0 Q pc L S n M = J O j n0 Q (pc + 3) L (vl 439854918756 :: S) n M := J_ldc2_w (q := (12, 33, 439854918756, 1839)) (by decide +kernel) (by rw [hm]) hd
theorem cln_15 {O : pO} {j n0 : Nat} {Q : pQ} {pc : Nat} {L : pL} {S : List pv} {n : Nat} {M : pM} (hm : mO j = 12) (hd : decode (mB j) pc = .ok (.ldc2_w 35, 3)) : J O j n0 Q pc L S n M = J O j n0 Q (pc + 3) L (vl 1919902052 :: S) n M := J_ldc2_w (q := (12, 35, 1919902052, 1840)) (by decide +kernel) (by rw [hm]) hd
theorem cln_16 {O : pO} {j n0 : Nat} {Q : pQ} {pc : Nat} {L : pL} {S : List pv} {n : Nat} {M : pM} (hm : mO j = 12) (hd : decode (mB j) pc = .ok (.ldc2_w 37, 3)) : J O j n0 Q pc L S n M = J O j n0 Q (pc + 3) L (vl 113715322316146 :: S) n M := J_ldc2_w (q := (12, 37, 113715322316146, 1841)) (by decide +kernel) (by rw [hm]) hd
theorem cln_17 {O : pO} {j n0 : Nat} {Q : pQ} {pc : Nat} {L : pL} {S : List pv} {n : Nat} {M : pM} (hm : mO j = 12) (hd : decode (mB j) pc = .ok (.ldc2_w 39, 3)) : J O j n0 Q pc L S n M = J O j n0 Q (pc + 3) L (vl 1936289387 :: S) n M := J_ldc2_w (q := (12, 39, 1936289387, 1842)) (by decide +kernel) (by rw [hm]) hd
theorem cln_18 {O : pO} {j n0 : Nat} {Q : pQ} {pc : Nat} {L : pL} {S : List pv} {n : Nat} {M : pM} (hm : mO j = 12) (hd : decode (mB j) pc = .ok (.ldc2_w 41, 3)) : J O j n0 Q pc L S n M = J O j n0 Q (pc + 3) L (vl 7521414230229344624 :: S) n M := J_ldc2_w (q := (12, 41, 7521414230229344624, 1843)) (by decide +kernel) (by rw [hm]) hd
theorem cln_19 {O : pO} {j n0 : Nat} {Q : pQ} {pc : Nat} {L : pL} {S : List pv} {n : Nat} {M : pM} (hm : mO j = 12) (hd : decode (mB j) pc = .ok (.ldc2_w 43, 3)) : J O j n0 Q pc L S n M = J O j n0 Q (pc + 3) L (vl 495589487205 :: S) n M := J_ldc2_w (q := (12, 43, 495589487205, 1844)) (by decide +kernel) (by rw [hm]) hd
theorem cln_20 {O : pO} {j n0 : Nat} {Q : pQ} {pc : Nat} {L : pL} {S : List pv} {n : Nat} {M : pM} (hm : mO j = 12) (hd : decode (mB j) pc = .ok (.ldc2_w 45, 3)) : J O j n0 Q pc L S n M = J O j n0 Q (pc + 3) L (vl 6385252 :: S) n M := J_ldc2_w (q := (12, 45, 6385252, 1845)) (by decide +kernel) (by rw [hm]) hd
theorem cln_21 {O : pO} {j n0 : Nat} {Q : pQ} {pc : Nat} {L : pL} {S : List pv} {n : Nat} {M : pM} (hm : mO j = 12) (hd : decode (mB j) pc = .ok (.ldc2_w 47, 3)) : J O j n0 Q pc L S n M = J O j n0 Q (pc + 3) L (vl 28530 :: S) n M := J_ldc2_w (q := (12, 47, 28530, 1846)) (by decide +kernel) (by rw [hm]) hd
theorem cln_22 {O : pO} {j n0 : Nat} {Q : pQ} {pc : Nat} {L : pL} {S : List pv} {n : Nat} {M : pM} (hm : mO j = 12) (hd : decode (mB j) pc = .ok (.ldc2_w 49, 3)) : J O j n0 Q pc L S n M = J O j n0 Q (pc + 3) L (vl 7237492 :: S) n M := J_ldc2_w (q := (12, 49, 7237492, 1847)) (by decide +kernel) (by rw [hm]) hd
theorem cln_23 {O : pO} {j n0 : Nat} {Q : pQ} {pc : Nat} {L : pL} {S : List pv} {n : Nat} {M : pM} (hm : mO j = 12) (hd : decode (mB j) pc = .ok (.ldc2_w 51, 3)) : J O j n0 Q pc L S n M = J O j n0 Q (pc + 3) L (vl 1685024357 :: S) n M := J_ldc2_w (q := (12, 51, 1685024357, 1848)) (by decide +kernel) (by rw [hm]) hd
theorem cln_24 {O : pO} {j n0 : Nat} {Q : pQ} {pc : Nat} {L : pL} {S : List pv} {n : Nat} {M : pM} (hm : mO j = 12) (hd : decode (mB j) pc = .ok (.ldc2_w 53, 3)) : J O j n0 Q pc L S n M = J O j n0 Q (pc + 3) L (vl 1818584947 :: S) n M := J_ldc2_w (q := (12, 53, 1818584947, 1849)) (by decide +kernel) (by rw [hm]) hd
theorem cln_25 {O : pO} {j n0 : Nat} {Q : pQ} {pc : Nat} {L : pL} {S : List pv} {n : Nat} {M : pM} (hm : mO j = 12) (hd : decode (mB j) pc = .ok (.ldc2_w 55, 3)) : J O j n0 Q pc L S n M = J O j n0 Q (pc + 3) L (vl 1953066341 :: S) n M := J_ldc2_w (q := (12, 55, 1953066341, 1850)) (by decide +kernel) (by rw [hm]) hd
theorem cln_26 {O : pO} {j n0 : Nat} {Q : pQ} {pc : Nat} {L : pL} {S : List pv} {n : Nat} {M : pM} (hm : mO j = 12) (hd : decode (mB j) pc = .ok (.ldc2_w 57, 3)) : J O j n0 Q pc L S n M = J O j n0 Q (pc + 3) L (vl 1650815860 :: S) n M := J_ldc2_w (q := (12, 57, 1650815860, 1851)) (by decide +kernel) (by rw [hm]) hd
theorem cln_27 {O : pO} {j n0 : Nat} {Q : pQ} {pc : Nat} {L : pL} {S : List pv} {n : Nat} {M : pM} (hm : mO j = 12) (hd : decode (mB j) pc = .ok (.ldc2_w 59, 3)) : J O j n0 Q pc L S n M = J O j n0 Q (pc + 3) L (vl 439855772532 :: S) n M := J_ldc2_w (q := (12, 59, 439855772532, 1852)) (by decide +kernel) (by rw [hm]) hd
theorem cln_28 {O : pO} {j n0 : Nat} {Q : pQ} {pc : Nat} {L : pL} {S : List pv} {n : Nat} {M : pM} (hm : mO j = 12) (hd : decode (mB j) pc = .ok (.ldc2_w 61, 3)) : J O j n0 Q pc L S n M = J O j n0 Q (pc + 3) L (vl 512735603827 :: S) n M := J_ldc2_w (q := (12, 61, 512735603827, 1853)) (by decide +kernel) (by rw [hm]) hd
theorem cln_29 {O : pO} {j n0 : Nat} {Q : pQ} {pc : Nat} {L : pL} {S : List pv} {n : Nat} {M : pM} (hm : mO j = 12) (hd : decode (mB j) pc = .ok (.ldc2_w 63, 3)) : J O j n0 Q pc L S n M = J O j n0 Q (pc + 3) L (vl 32210697498944868 :: S) n M := J_ldc2_w (q := (12, 63, 32210697498944868, 1854)) (by decide +kernel) (by rw [hm]) hd
theorem sh_0 : SH 0 = .inl 11 := rfl
theorem ob_0 {n : Nat} (h : 0 < n) : ob n 0 = 11 := by unfold ob; rw [if_pos h]; rfl
theorem sh_1 : SH 1 = .inr (0, 1900) := rfl
theorem aw_1 {n : Nat} (h : 1 < n) : alw n 1 0 = 1900 := by unfold alw; rw [if_pos h]; rfl
theorem al_1 {M : pM} {n : Nat} (h : 1 < n) : aln M n 1 0 = 1900 := by unfold aln; rw [if_neg (by decide), if_neg (by decide)]; exact aw_1 h
theorem sh_2 : SH 2 = .inl 7 := rfl
theorem ob_2 {n : Nat} (h : 2 < n) : ob n 2 = 7 := by unfold ob; rw [if_pos h]; rfl
theorem sh_3 : SH 3 = .inl 4 := rfl
theorem ob_3 {n : Nat} (h : 3 < n) : ob n 3 = 4 := by unfold ob; rw [if_pos h]; rfl
theorem sh_4 : SH 4 = .inr (0, 64) := rfl
theorem aw_4 {n : Nat} (h : 4 < n) : alw n 4 0 = 64 := by unfold alw; rw [if_pos h]; rfl
theorem al_4 {M : pM} {n : Nat} (h : 4 < n) : aln M n 4 0 = 64 := by unfold aln; rw [if_neg (by decide), if_neg (by decide)]; exact aw_4 h
theorem sh_5 : SH 5 = .inr (0, 48) := rfl
theorem aw_5 {n : Nat} (h : 5 < n) : alw n 5 0 = 48 := by unfold alw; rw [if_pos h]; rfl
theorem al_5 {M : pM} {n : Nat} (h : 5 < n) : aln M n 5 0 = 48 := by unfold aln; rw [if_neg (by decide), if_neg (by decide)]; exact aw_5 h
theorem sh_6 : SH 6 = .inr (0, 6) := rfl
theorem aw_6 {n : Nat} (h : 6 < n) : alw n 6 0 = 6 := by unfold alw; rw [if_pos h]; rfl
theorem al_6 {M : pM} {n : Nat} (h : 6 < n) : aln M n 6 0 = 6 := by unfold aln; rw [if_neg (by decide), if_neg (by decide)]; exact aw_6 h
theorem sh_7 : SH 7 = .inr (0, 6) := rfl
theorem aw_7 {n : Nat} (h : 7 < n) : alw n 7 0 = 6 := by unfold alw; rw [if_pos h]; rfl
theorem al_7 {M : pM} {n : Nat} (h : 7 < n) : aln M n 7 0 = 6 := by unfold aln; rw [if_neg (by decide), if_neg (by decide)]; exact aw_7 h
theorem sh_8 : SH 8 = .inr (0, 48) := rfl
theorem aw_8 {n : Nat} (h : 8 < n) : alw n 8 0 = 48 := by unfold alw; rw [if_pos h]; rfl
theorem al_8 {M : pM} {n : Nat} (h : 8 < n) : aln M n 8 0 = 48 := by unfold aln; rw [if_neg (by decide), if_neg (by decide)]; exact aw_8 h
theorem sh_9 : SH 9 = .inr (0, 60) := rfl
theorem aw_9 {n : Nat} (h : 9 < n) : alw n 9 0 = 60 := by unfold alw; rw [if_pos h]; rfl
theorem al_9 {M : pM} {n : Nat} (h : 9 < n) : aln M n 9 0 = 60 := by unfold aln; rw [if_neg (by decide), if_neg (by decide)]; exact aw_9 h
theorem sh_10 : SH 10 = .inr (1, 4) := rfl
theorem aw_10 {n : Nat} (h : 10 < n) : alw n 10 1 = 4 := by unfold alw; rw [if_pos h]; rfl
theorem sh_11 : SH 11 = .inr (0, 20) := rfl
theorem aw_11 {n : Nat} (h : 11 < n) : alw n 11 0 = 20 := by unfold alw; rw [if_pos h]; rfl
theorem al_11 {M : pM} {n : Nat} (h : 11 < n) : aln M n 11 0 = 20 := by unfold aln; rw [if_neg (by decide), if_neg (by decide)]; exact aw_11 h
theorem sh_12 : SH 12 = .inl 4 := rfl
theorem ob_12 {n : Nat} (h : 12 < n) : ob n 12 = 4 := by unfold ob; rw [if_pos h]; rfl
theorem sh_13 : SH 13 = .inr (0, 64) := rfl
theorem aw_13 {n : Nat} (h : 13 < n) : alw n 13 0 = 64 := by unfold alw; rw [if_pos h]; rfl
theorem al_13 {M : pM} {n : Nat} (h : 13 < n) : aln M n 13 0 = 64 := by unfold aln; rw [if_neg (by decide), if_neg (by decide)]; exact aw_13 h
theorem sh_14 : SH 14 = .inr (0, 48) := rfl
theorem aw_14 {n : Nat} (h : 14 < n) : alw n 14 0 = 48 := by unfold alw; rw [if_pos h]; rfl
theorem al_14 {M : pM} {n : Nat} (h : 14 < n) : aln M n 14 0 = 48 := by unfold aln; rw [if_neg (by decide), if_neg (by decide)]; exact aw_14 h
theorem sh_15 : SH 15 = .inr (0, 6) := rfl
theorem aw_15 {n : Nat} (h : 15 < n) : alw n 15 0 = 6 := by unfold alw; rw [if_pos h]; rfl
theorem al_15 {M : pM} {n : Nat} (h : 15 < n) : aln M n 15 0 = 6 := by unfold aln; rw [if_neg (by decide), if_neg (by decide)]; exact aw_15 h
theorem sh_16 : SH 16 = .inr (0, 6) := rfl
theorem aw_16 {n : Nat} (h : 16 < n) : alw n 16 0 = 6 := by unfold alw; rw [if_pos h]; rfl
theorem al_16 {M : pM} {n : Nat} (h : 16 < n) : aln M n 16 0 = 6 := by unfold aln; rw [if_neg (by decide), if_neg (by decide)]; exact aw_16 h
theorem sh_17 : SH 17 = .inr (0, 48) := rfl
theorem aw_17 {n : Nat} (h : 17 < n) : alw n 17 0 = 48 := by unfold alw; rw [if_pos h]; rfl
theorem al_17 {M : pM} {n : Nat} (h : 17 < n) : aln M n 17 0 = 48 := by unfold aln; rw [if_neg (by decide), if_neg (by decide)]; exact aw_17 h
theorem sh_18 : SH 18 = .inr (0, 60) := rfl
theorem aw_18 {n : Nat} (h : 18 < n) : alw n 18 0 = 60 := by unfold alw; rw [if_pos h]; rfl
theorem al_18 {M : pM} {n : Nat} (h : 18 < n) : aln M n 18 0 = 60 := by unfold aln; rw [if_neg (by decide), if_neg (by decide)]; exact aw_18 h
theorem sh_19 : SH 19 = .inr (1, 4) := rfl
theorem aw_19 {n : Nat} (h : 19 < n) : alw n 19 1 = 4 := by unfold alw; rw [if_pos h]; rfl
theorem sh_20 : SH 20 = .inr (0, 20) := rfl
theorem aw_20 {n : Nat} (h : 20 < n) : alw n 20 0 = 20 := by unfold alw; rw [if_pos h]; rfl
theorem al_20 {M : pM} {n : Nat} (h : 20 < n) : aln M n 20 0 = 20 := by unfold aln; rw [if_neg (by decide), if_neg (by decide)]; exact aw_20 h
theorem sh_21 : SH 21 = .inl 5 := rfl
theorem ob_21 {n : Nat} (h : 21 < n) : ob n 21 = 5 := by unfold ob; rw [if_pos h]; rfl
theorem sh_22 : SH 22 = .inl 3 := rfl
theorem ob_22 {n : Nat} (h : 22 < n) : ob n 22 = 3 := by unfold ob; rw [if_pos h]; rfl
theorem sh_23 : SH 23 = .inr (0, 512) := rfl
theorem aw_23 {n : Nat} (h : 23 < n) : alw n 23 0 = 512 := by unfold alw; rw [if_pos h]; rfl
theorem al_23 {M : pM} {n : Nat} (h : 23 < n) : aln M n 23 0 = 512 := by unfold aln; rw [if_neg (by decide), if_neg (by decide)]; exact aw_23 h
theorem sh_24 : SH 24 = .inr (0, 512) := rfl
theorem aw_24 {n : Nat} (h : 24 < n) : alw n 24 0 = 512 := by unfold alw; rw [if_pos h]; rfl
theorem al_24 {M : pM} {n : Nat} (h : 24 < n) : aln M n 24 0 = 512 := by unfold aln; rw [if_neg (by decide), if_neg (by decide)]; exact aw_24 h
theorem sh_25 : SH 25 = .inr (0, 61) := rfl
theorem aw_25 {n : Nat} (h : 25 < n) : alw n 25 0 = 61 := by unfold alw; rw [if_pos h]; rfl
theorem al_25 {M : pM} {n : Nat} (h : 25 < n) : aln M n 25 0 = 61 := by unfold aln; rw [if_neg (by decide), if_neg (by decide)]; exact aw_25 h
theorem sh_26 : SH 26 = .inl 0 := rfl
theorem ob_26 {n : Nat} (h : 26 < n) : ob n 26 = 0 := by unfold ob; rw [if_pos h]; rfl
theorem sh_27 : SH 27 = .inr (0, 4) := rfl
theorem aw_27 {n : Nat} (h : 27 < n) : alw n 27 0 = 4 := by unfold alw; rw [if_pos h]; rfl
theorem al_27 {M : pM} {n : Nat} (h : 27 < n) : aln M n 27 0 = 4 := by unfold aln; rw [if_neg (by decide), if_neg (by decide)]; exact aw_27 h
theorem sh_28 : SH 28 = .inl 1 := rfl
theorem ob_28 {n : Nat} (h : 28 < n) : ob n 28 = 1 := by unfold ob; rw [if_pos h]; rfl
theorem sh_29 : SH 29 = .inr (1, 9472) := rfl
theorem aw_29 {n : Nat} (h : 29 < n) : alw n 29 1 = 9472 := by unfold alw; rw [if_pos h]; rfl
theorem sh_30 : SH 30 = .inr (0, 512) := rfl
theorem aw_30 {n : Nat} (h : 30 < n) : alw n 30 0 = 512 := by unfold alw; rw [if_pos h]; rfl
theorem al_30 {M : pM} {n : Nat} (h : 30 < n) : aln M n 30 0 = 512 := by unfold aln; rw [if_neg (by decide), if_neg (by decide)]; exact aw_30 h
theorem sh_31 : SH 31 = .inr (0, 24) := rfl
theorem aw_31 {n : Nat} (h : 31 < n) : alw n 31 0 = 24 := by unfold alw; rw [if_pos h]; rfl
theorem al_31 {M : pM} {n : Nat} (h : 31 < n) : aln M n 31 0 = 24 := by unfold aln; rw [if_neg (by decide), if_neg (by decide)]; exact aw_31 h
theorem sh_32 : SH 32 = .inr (0, 36) := rfl
theorem aw_32 {n : Nat} (h : 32 < n) : alw n 32 0 = 36 := by unfold alw; rw [if_pos h]; rfl
theorem al_32 {M : pM} {n : Nat} (h : 32 < n) : aln M n 32 0 = 36 := by unfold aln; rw [if_neg (by decide), if_neg (by decide)]; exact aw_32 h
theorem sh_33 : SH 33 = .inl 0 := rfl
theorem ob_33 {n : Nat} (h : 33 < n) : ob n 33 = 0 := by unfold ob; rw [if_pos h]; rfl
theorem sh_34 : SH 34 = .inr (0, 4) := rfl
theorem aw_34 {n : Nat} (h : 34 < n) : alw n 34 0 = 4 := by unfold alw; rw [if_pos h]; rfl
theorem al_34 {M : pM} {n : Nat} (h : 34 < n) : aln M n 34 0 = 4 := by unfold aln; rw [if_neg (by decide), if_neg (by decide)]; exact aw_34 h
theorem sh_35 : SH 35 = .inl 2 := rfl
theorem ob_35 {n : Nat} (h : 35 < n) : ob n 35 = 2 := by unfold ob; rw [if_pos h]; rfl
theorem sh_36 : SH 36 = .inr (0, 4) := rfl
theorem aw_36 {n : Nat} (h : 36 < n) : alw n 36 0 = 4 := by unfold alw; rw [if_pos h]; rfl
theorem al_36 {M : pM} {n : Nat} (h : 36 < n) : aln M n 36 0 = 4 := by unfold aln; rw [if_neg (by decide), if_neg (by decide)]; exact aw_36 h
theorem sh_37 : SH 37 = .inr (0, 30) := rfl
theorem aw_37 {n : Nat} (h : 37 < n) : alw n 37 0 = 30 := by unfold alw; rw [if_pos h]; rfl
theorem al_37 {M : pM} {n : Nat} (h : 37 < n) : aln M n 37 0 = 30 := by unfold aln; rw [if_neg (by decide), if_neg (by decide)]; exact aw_37 h
theorem sh_38 : SH 38 = .inr (0, 30) := rfl
theorem aw_38 {n : Nat} (h : 38 < n) : alw n 38 0 = 30 := by unfold alw; rw [if_pos h]; rfl
theorem al_38 {M : pM} {n : Nat} (h : 38 < n) : aln M n 38 0 = 30 := by unfold aln; rw [if_neg (by decide), if_neg (by decide)]; exact aw_38 h
theorem sh_39 : SH 39 = .inr (0, 30) := rfl
theorem aw_39 {n : Nat} (h : 39 < n) : alw n 39 0 = 30 := by unfold alw; rw [if_pos h]; rfl
theorem al_39 {M : pM} {n : Nat} (h : 39 < n) : aln M n 39 0 = 30 := by unfold aln; rw [if_neg (by decide), if_neg (by decide)]; exact aw_39 h
theorem sh_40 : SH 40 = .inl 9 := rfl
theorem ob_40 {n : Nat} (h : 40 < n) : ob n 40 = 9 := by unfold ob; rw [if_pos h]; rfl
theorem sh_41 : SH 41 = .inr (0, 8) := rfl
theorem aw_41 {n : Nat} (h : 41 < n) : alw n 41 0 = 8 := by unfold alw; rw [if_pos h]; rfl
theorem al_41 {M : pM} {n : Nat} (h : 41 < n) : aln M n 41 0 = 8 := by unfold aln; rw [if_neg (by decide), if_neg (by decide)]; exact aw_41 h
theorem sh_42 : SH 42 = .inr (0, 200) := rfl
theorem aw_42 {n : Nat} (h : 42 < n) : alw n 42 0 = 200 := by unfold alw; rw [if_pos h]; rfl
theorem al_42 {M : pM} {n : Nat} (h : 42 < n) : aln M n 42 0 = 200 := by unfold aln; rw [if_neg (by decide), if_neg (by decide)]; exact aw_42 h
theorem sh_43 : SH 43 = .inr (0, 200) := rfl
theorem aw_43 {n : Nat} (h : 43 < n) : alw n 43 0 = 200 := by unfold alw; rw [if_pos h]; rfl
theorem al_43 {M : pM} {n : Nat} (h : 43 < n) : aln M n 43 0 = 200 := by unfold aln; rw [if_neg (by decide), if_neg (by decide)]; exact aw_43 h
theorem sh_44 : SH 44 = .inr (0, 200) := rfl
theorem aw_44 {n : Nat} (h : 44 < n) : alw n 44 0 = 200 := by unfold alw; rw [if_pos h]; rfl
theorem al_44 {M : pM} {n : Nat} (h : 44 < n) : aln M n 44 0 = 200 := by unfold aln; rw [if_neg (by decide), if_neg (by decide)]; exact aw_44 h
theorem sh_45 : SH 45 = .inr (0, 200) := rfl
theorem aw_45 {n : Nat} (h : 45 < n) : alw n 45 0 = 200 := by unfold alw; rw [if_pos h]; rfl
theorem al_45 {M : pM} {n : Nat} (h : 45 < n) : aln M n 45 0 = 200 := by unfold aln; rw [if_neg (by decide), if_neg (by decide)]; exact aw_45 h
theorem sh_46 : SH 46 = .inr (0, 200) := rfl
theorem aw_46 {n : Nat} (h : 46 < n) : alw n 46 0 = 200 := by unfold alw; rw [if_pos h]; rfl
theorem al_46 {M : pM} {n : Nat} (h : 46 < n) : aln M n 46 0 = 200 := by unfold aln; rw [if_neg (by decide), if_neg (by decide)]; exact aw_46 h
theorem sh_47 : SH 47 = .inr (0, 200) := rfl
theorem aw_47 {n : Nat} (h : 47 < n) : alw n 47 0 = 200 := by unfold alw; rw [if_pos h]; rfl
theorem al_47 {M : pM} {n : Nat} (h : 47 < n) : aln M n 47 0 = 200 := by unfold aln; rw [if_neg (by decide), if_neg (by decide)]; exact aw_47 h
theorem sh_48 : SH 48 = .inl 8 := rfl
theorem ob_48 {n : Nat} (h : 48 < n) : ob n 48 = 8 := by unfold ob; rw [if_pos h]; rfl
theorem sh_49 : SH 49 = .inr (0, 36) := rfl
theorem aw_49 {n : Nat} (h : 49 < n) : alw n 49 0 = 36 := by unfold alw; rw [if_pos h]; rfl
theorem al_49 {M : pM} {n : Nat} (h : 49 < n) : aln M n 49 0 = 36 := by unfold aln; rw [if_neg (by decide), if_neg (by decide)]; exact aw_49 h
theorem sh_50 : SH 50 = .inr (0, 36) := rfl
theorem aw_50 {n : Nat} (h : 50 < n) : alw n 50 0 = 36 := by unfold alw; rw [if_pos h]; rfl
theorem al_50 {M : pM} {n : Nat} (h : 50 < n) : aln M n 50 0 = 36 := by unfold aln; rw [if_neg (by decide), if_neg (by decide)]; exact aw_50 h
theorem sh_51 : SH 51 = .inr (0, 36) := rfl
theorem aw_51 {n : Nat} (h : 51 < n) : alw n 51 0 = 36 := by unfold alw; rw [if_pos h]; rfl
theorem al_51 {M : pM} {n : Nat} (h : 51 < n) : aln M n 51 0 = 36 := by unfold aln; rw [if_neg (by decide), if_neg (by decide)]; exact aw_51 h
theorem sh_52 : SH 52 = .inr (0, 36) := rfl
theorem aw_52 {n : Nat} (h : 52 < n) : alw n 52 0 = 36 := by unfold alw; rw [if_pos h]; rfl
theorem al_52 {M : pM} {n : Nat} (h : 52 < n) : aln M n 52 0 = 36 := by unfold aln; rw [if_neg (by decide), if_neg (by decide)]; exact aw_52 h
theorem sh_53 : SH 53 = .inl 6 := rfl
theorem ob_53 {n : Nat} (h : 53 < n) : ob n 53 = 6 := by unfold ob; rw [if_pos h]; rfl
theorem sh_54 : SH 54 = .inr (0, 64) := rfl
theorem aw_54 {n : Nat} (h : 54 < n) : alw n 54 0 = 64 := by unfold alw; rw [if_pos h]; rfl
theorem al_54 {M : pM} {n : Nat} (h : 54 < n) : aln M n 54 0 = 64 := by unfold aln; rw [if_neg (by decide), if_neg (by decide)]; exact aw_54 h
theorem sh_55 : SH 55 = .inl 10 := rfl
theorem ob_55 {n : Nat} (h : 55 < n) : ob n 55 = 10 := by unfold ob; rw [if_pos h]; rfl
theorem sh_56 : SH 56 = .inr (0, 9) := rfl
theorem aw_56 {n : Nat} (h : 56 < n) : alw n 56 0 = 9 := by unfold alw; rw [if_pos h]; rfl
theorem al_56 {M : pM} {n : Nat} (h : 56 < n) : aln M n 56 0 = 9 := by unfold aln; rw [if_neg (by decide), if_neg (by decide)]; exact aw_56 h
theorem sh_57 : SH 57 = .inr (0, 64) := rfl
theorem aw_57 {n : Nat} (h : 57 < n) : alw n 57 0 = 64 := by unfold alw; rw [if_pos h]; rfl
theorem al_57 {M : pM} {n : Nat} (h : 57 < n) : aln M n 57 0 = 64 := by unfold aln; rw [if_neg (by decide), if_neg (by decide)]; exact aw_57 h
theorem sh_58 : SH 58 = .inr (0, 3) := rfl
theorem aw_58 {n : Nat} (h : 58 < n) : alw n 58 0 = 3 := by unfold alw; rw [if_pos h]; rfl
theorem al_58 {M : pM} {n : Nat} (h : 58 < n) : aln M n 58 0 = 3 := by unfold aln; rw [if_neg (by decide), if_neg (by decide)]; exact aw_58 h
theorem sh_59 : SH 59 = .inr (0, 9) := rfl
theorem aw_59 {n : Nat} (h : 59 < n) : alw n 59 0 = 9 := by unfold alw; rw [if_pos h]; rfl
theorem al_59 {M : pM} {n : Nat} (h : 59 < n) : aln M n 59 0 = 9 := by unfold aln; rw [if_neg (by decide), if_neg (by decide)]; exact aw_59 h
theorem sh_60 : SH 60 = .inr (0, 9) := rfl
theorem aw_60 {n : Nat} (h : 60 < n) : alw n 60 0 = 9 := by unfold alw; rw [if_pos h]; rfl
theorem al_60 {M : pM} {n : Nat} (h : 60 < n) : aln M n 60 0 = 9 := by unfold aln; rw [if_neg (by decide), if_neg (by decide)]; exact aw_60 h
theorem sh_61 : SH 61 = .inl 12 := rfl
theorem ob_61 {n : Nat} (h : 61 < n) : ob n 61 = 12 := by unfold ob; rw [if_pos h]; rfl
theorem sh_62 : SH 62 = .inr (2, 1920) := rfl
theorem aw_62 {n : Nat} (h : 62 < n) : alw n 62 2 = 1920 := by unfold alw; rw [if_pos h]; rfl
theorem ax_62 {n : Nat} : alw n 62 3 = -1 := by unfold alw; split <;> rfl
theorem sh_63 : SH 63 = .inr (2, 1900) := rfl
theorem aw_63 {n : Nat} (h : 63 < n) : alw n 63 2 = 1900 := by unfold alw; rw [if_pos h]; rfl
theorem ax_63 {n : Nat} : alw n 63 3 = -1 := by unfold alw; split <;> rfl
theorem sh_64 : SH 64 = .inr (0, 2) := rfl
theorem aw_64 {n : Nat} (h : 64 < n) : alw n 64 0 = 2 := by unfold alw; rw [if_pos h]; rfl
theorem al_64 {M : pM} {n : Nat} (h : 64 < n) : aln M n 64 0 = 2 := by unfold aln; rw [if_neg (by decide), if_neg (by decide)]; exact aw_64 h
theorem sh_65 : SH 65 = .inr (0, 2) := rfl
theorem aw_65 {n : Nat} (h : 65 < n) : alw n 65 0 = 2 := by unfold alw; rw [if_pos h]; rfl
theorem al_65 {M : pM} {n : Nat} (h : 65 < n) : aln M n 65 0 = 2 := by unfold aln; rw [if_neg (by decide), if_neg (by decide)]; exact aw_65 h
theorem sh_66 : SH 66 = .inr (0, 2) := rfl
theorem aw_66 {n : Nat} (h : 66 < n) : alw n 66 0 = 2 := by unfold alw; rw [if_pos h]; rfl
theorem al_66 {M : pM} {n : Nat} (h : 66 < n) : aln M n 66 0 = 2 := by unfold aln; rw [if_neg (by decide), if_neg (by decide)]; exact aw_66 h
theorem sh_67 : SH 67 = .inr (0, 2) := rfl
theorem aw_67 {n : Nat} (h : 67 < n) : alw n 67 0 = 2 := by unfold alw; rw [if_pos h]; rfl
theorem al_67 {M : pM} {n : Nat} (h : 67 < n) : aln M n 67 0 = 2 := by unfold aln; rw [if_neg (by decide), if_neg (by decide)]; exact aw_67 h
theorem sh_68 : SH 68 = .inr (0, 2) := rfl
theorem aw_68 {n : Nat} (h : 68 < n) : alw n 68 0 = 2 := by unfold alw; rw [if_pos h]; rfl
theorem al_68 {M : pM} {n : Nat} (h : 68 < n) : aln M n 68 0 = 2 := by unfold aln; rw [if_neg (by decide), if_neg (by decide)]; exact aw_68 h
theorem sh_69 : SH 69 = .inr (0, 128) := rfl
theorem aw_69 {n : Nat} (h : 69 < n) : alw n 69 0 = 128 := by unfold alw; rw [if_pos h]; rfl
theorem al_69 {M : pM} {n : Nat} (h : 69 < n) : aln M n 69 0 = 128 := by unfold aln; rw [if_neg (by decide), if_neg (by decide)]; exact aw_69 h
theorem sh_70 : SH 70 = .inr (0, 96) := rfl
theorem aw_70 {n : Nat} (h : 70 < n) : alw n 70 0 = 96 := by unfold alw; rw [if_pos h]; rfl
theorem al_70 {M : pM} {n : Nat} (h : 70 < n) : aln M n 70 0 = 96 := by unfold aln; rw [if_neg (by decide), if_neg (by decide)]; exact aw_70 h
theorem sh_71 : SH 71 = .inr (0, 12) := rfl
theorem aw_71 {n : Nat} (h : 71 < n) : alw n 71 0 = 12 := by unfold alw; rw [if_pos h]; rfl
theorem al_71 {M : pM} {n : Nat} (h : 71 < n) : aln M n 71 0 = 12 := by unfold aln; rw [if_neg (by decide), if_neg (by decide)]; exact aw_71 h
theorem sh_72 : SH 72 = .inr (0, 12) := rfl
theorem aw_72 {n : Nat} (h : 72 < n) : alw n 72 0 = 12 := by unfold alw; rw [if_pos h]; rfl
theorem al_72 {M : pM} {n : Nat} (h : 72 < n) : aln M n 72 0 = 12 := by unfold aln; rw [if_neg (by decide), if_neg (by decide)]; exact aw_72 h
theorem sh_73 : SH 73 = .inr (0, 12) := rfl
theorem aw_73 {n : Nat} (h : 73 < n) : alw n 73 0 = 12 := by unfold alw; rw [if_pos h]; rfl
theorem al_73 {M : pM} {n : Nat} (h : 73 < n) : aln M n 73 0 = 12 := by unfold aln; rw [if_neg (by decide), if_neg (by decide)]; exact aw_73 h
theorem sh_74 : SH 74 = .inr (0, 24) := rfl
theorem aw_74 {n : Nat} (h : 74 < n) : alw n 74 0 = 24 := by unfold alw; rw [if_pos h]; rfl
theorem al_74 {M : pM} {n : Nat} (h : 74 < n) : aln M n 74 0 = 24 := by unfold aln; rw [if_neg (by decide), if_neg (by decide)]; exact aw_74 h
theorem sh_75 : SH 75 = .inr (0, 24) := rfl
theorem aw_75 {n : Nat} (h : 75 < n) : alw n 75 0 = 24 := by unfold alw; rw [if_pos h]; rfl
theorem al_75 {M : pM} {n : Nat} (h : 75 < n) : aln M n 75 0 = 24 := by unfold aln; rw [if_neg (by decide), if_neg (by decide)]; exact aw_75 h
theorem sh_76 : SH 76 = .inr (0, 24) := rfl
theorem aw_76 {n : Nat} (h : 76 < n) : alw n 76 0 = 24 := by unfold alw; rw [if_pos h]; rfl
theorem al_76 {M : pM} {n : Nat} (h : 76 < n) : aln M n 76 0 = 24 := by unfold aln; rw [if_neg (by decide), if_neg (by decide)]; exact aw_76 h
theorem sh_77 : SH 77 = .inr (0, 24) := rfl
theorem aw_77 {n : Nat} (h : 77 < n) : alw n 77 0 = 24 := by unfold alw; rw [if_pos h]; rfl
theorem al_77 {M : pM} {n : Nat} (h : 77 < n) : aln M n 77 0 = 24 := by unfold aln; rw [if_neg (by decide), if_neg (by decide)]; exact aw_77 h
theorem sh_78 : SH 78 = .inr (0, 40) := rfl
theorem aw_78 {n : Nat} (h : 78 < n) : alw n 78 0 = 40 := by unfold alw; rw [if_pos h]; rfl
theorem al_78 {M : pM} {n : Nat} (h : 78 < n) : aln M n 78 0 = 40 := by unfold aln; rw [if_neg (by decide), if_neg (by decide)]; exact aw_78 h
theorem sh_79 : SH 79 = .inr (0, 40) := rfl
theorem aw_79 {n : Nat} (h : 79 < n) : alw n 79 0 = 40 := by unfold alw; rw [if_pos h]; rfl
theorem al_79 {M : pM} {n : Nat} (h : 79 < n) : aln M n 79 0 = 40 := by unfold aln; rw [if_neg (by decide), if_neg (by decide)]; exact aw_79 h
theorem sh_80 : SH 80 = .inr (0, 40) := rfl
theorem aw_80 {n : Nat} (h : 80 < n) : alw n 80 0 = 40 := by unfold alw; rw [if_pos h]; rfl
theorem al_80 {M : pM} {n : Nat} (h : 80 < n) : aln M n 80 0 = 40 := by unfold aln; rw [if_neg (by decide), if_neg (by decide)]; exact aw_80 h
theorem sh_81 : SH 81 = .inr (0, 32) := rfl
theorem aw_81 {n : Nat} (h : 81 < n) : alw n 81 0 = 32 := by unfold alw; rw [if_pos h]; rfl
theorem al_81 {M : pM} {n : Nat} (h : 81 < n) : aln M n 81 0 = 32 := by unfold aln; rw [if_neg (by decide), if_neg (by decide)]; exact aw_81 h
theorem sh_82 : SH 82 = .inr (0, 8) := rfl
theorem aw_82 {n : Nat} (h : 82 < n) : alw n 82 0 = 8 := by unfold alw; rw [if_pos h]; rfl
theorem al_82 {M : pM} {n : Nat} (h : 82 < n) : aln M n 82 0 = 8 := by unfold aln; rw [if_neg (by decide), if_neg (by decide)]; exact aw_82 h
theorem sh_83 : SH 83 = .inr (1, 8) := rfl
theorem aw_83 {n : Nat} (h : 83 < n) : alw n 83 1 = 8 := by unfold alw; rw [if_pos h]; rfl
theorem sh_84 : SH 84 = .inr (3, 8) := rfl
theorem aw_84 {n : Nat} (h : 84 < n) : alw n 84 3 = 8 := by unfold alw; rw [if_pos h]; rfl
theorem ax_84 {n : Nat} : alw n 84 2 = -1 := by unfold alw; split <;> rfl
theorem sh_85 : SH 85 = .inr (3, 8) := rfl
theorem aw_85 {n : Nat} (h : 85 < n) : alw n 85 3 = 8 := by unfold alw; rw [if_pos h]; rfl
theorem ax_85 {n : Nat} : alw n 85 2 = -1 := by unfold alw; split <;> rfl
theorem sh_86 : SH 86 = .inr (3, 128) := rfl
theorem aw_86 {n : Nat} (h : 86 < n) : alw n 86 3 = 128 := by unfold alw; rw [if_pos h]; rfl
theorem ax_86 {n : Nat} : alw n 86 2 = -1 := by unfold alw; split <;> rfl
theorem sh_87 : SH 87 = .inr (0, 4) := rfl
theorem aw_87 {n : Nat} (h : 87 < n) : alw n 87 0 = 4 := by unfold alw; rw [if_pos h]; rfl
theorem al_87 {M : pM} {n : Nat} (h : 87 < n) : aln M n 87 0 = 4 := by unfold aln; rw [if_neg (by decide), if_neg (by decide)]; exact aw_87 h
theorem sh_88 : SH 88 = .inr (0, 388352) := rfl
theorem aw_88 {n : Nat} (h : 88 < n) : alw n 88 0 = 388352 := by unfold alw; rw [if_pos h]; rfl
theorem al_88 {M : pM} {n : Nat} (h : 88 < n) : aln M n 88 0 = 388352 := by unfold aln; rw [if_neg (by decide), if_neg (by decide)]; exact aw_88 h
theorem sh_89 : SH 89 = .inr (0, 36) := rfl
theorem aw_89 {n : Nat} (h : 89 < n) : alw n 89 0 = 36 := by unfold alw; rw [if_pos h]; rfl
theorem al_89 {M : pM} {n : Nat} (h : 89 < n) : aln M n 89 0 = 36 := by unfold aln; rw [if_neg (by decide), if_neg (by decide)]; exact aw_89 h
theorem sh_90 : SH 90 = .inr (3, 97088) := rfl
theorem aw_90 {n : Nat} (h : 90 < n) : alw n 90 3 = 97088 := by unfold alw; rw [if_pos h]; rfl
theorem ax_90 {n : Nat} : alw n 90 2 = -1 := by unfold alw; split <;> rfl
theorem sh_91 : SH 91 = .inr (0, 30) := rfl
theorem aw_91 {n : Nat} (h : 91 < n) : alw n 91 0 = 30 := by unfold alw; rw [if_pos h]; rfl
theorem al_91 {M : pM} {n : Nat} (h : 91 < n) : aln M n 91 0 = 30 := by unfold aln; rw [if_neg (by decide), if_neg (by decide)]; exact aw_91 h
theorem sh_92 : SH 92 = .inr (0, 30) := rfl
theorem aw_92 {n : Nat} (h : 92 < n) : alw n 92 0 = 30 := by unfold alw; rw [if_pos h]; rfl
theorem al_92 {M : pM} {n : Nat} (h : 92 < n) : aln M n 92 0 = 30 := by unfold aln; rw [if_neg (by decide), if_neg (by decide)]; exact aw_92 h
theorem sh_93 : SH 93 = .inr (0, 30) := rfl
theorem aw_93 {n : Nat} (h : 93 < n) : alw n 93 0 = 30 := by unfold alw; rw [if_pos h]; rfl
theorem al_93 {M : pM} {n : Nat} (h : 93 < n) : aln M n 93 0 = 30 := by unfold aln; rw [if_neg (by decide), if_neg (by decide)]; exact aw_93 h
theorem sh_94 : SH 94 = .inr (3, 30) := rfl
theorem aw_94 {n : Nat} (h : 94 < n) : alw n 94 3 = 30 := by unfold alw; rw [if_pos h]; rfl
theorem ax_94 {n : Nat} : alw n 94 2 = -1 := by unfold alw; split <;> rfl
theorem sh_95 : SH 95 = .inr (0, 5) := rfl
theorem aw_95 {n : Nat} (h : 95 < n) : alw n 95 0 = 5 := by unfold alw; rw [if_pos h]; rfl
theorem al_95 {M : pM} {n : Nat} (h : 95 < n) : aln M n 95 0 = 5 := by unfold aln; rw [if_neg (by decide), if_neg (by decide)]; exact aw_95 h
theorem sh_96 : SH 96 = .inr (0, 8) := rfl
theorem aw_96 {n : Nat} (h : 96 < n) : alw n 96 0 = 8 := by unfold alw; rw [if_pos h]; rfl
theorem al_96 {M : pM} {n : Nat} (h : 96 < n) : aln M n 96 0 = 8 := by unfold aln; rw [if_neg (by decide), if_neg (by decide)]; exact aw_96 h
theorem sh_97 : SH 97 = .inr (0, 200) := rfl
theorem aw_97 {n : Nat} (h : 97 < n) : alw n 97 0 = 200 := by unfold alw; rw [if_pos h]; rfl
theorem al_97 {M : pM} {n : Nat} (h : 97 < n) : aln M n 97 0 = 200 := by unfold aln; rw [if_neg (by decide), if_neg (by decide)]; exact aw_97 h
theorem sh_98 : SH 98 = .inr (0, 200) := rfl
theorem aw_98 {n : Nat} (h : 98 < n) : alw n 98 0 = 200 := by unfold alw; rw [if_pos h]; rfl
theorem al_98 {M : pM} {n : Nat} (h : 98 < n) : aln M n 98 0 = 200 := by unfold aln; rw [if_neg (by decide), if_neg (by decide)]; exact aw_98 h
theorem sh_99 : SH 99 = .inr (0, 200) := rfl
theorem aw_99 {n : Nat} (h : 99 < n) : alw n 99 0 = 200 := by unfold alw; rw [if_pos h]; rfl
theorem al_99 {M : pM} {n : Nat} (h : 99 < n) : aln M n 99 0 = 200 := by unfold aln; rw [if_neg (by decide), if_neg (by decide)]; exact aw_99 h
theorem sh_100 : SH 100 = .inr (0, 200) := rfl
theorem aw_100 {n : Nat} (h : 100 < n) : alw n 100 0 = 200 := by unfold alw; rw [if_pos h]; rfl
theorem al_100 {M : pM} {n : Nat} (h : 100 < n) : aln M n 100 0 = 200 := by unfold aln; rw [if_neg (by decide), if_neg (by decide)]; exact aw_100 h
theorem sh_101 : SH 101 = .inr (0, 200) := rfl
theorem aw_101 {n : Nat} (h : 101 < n) : alw n 101 0 = 200 := by unfold alw; rw [if_pos h]; rfl
theorem al_101 {M : pM} {n : Nat} (h : 101 < n) : aln M n 101 0 = 200 := by unfold aln; rw [if_neg (by decide), if_neg (by decide)]; exact aw_101 h
theorem sh_102 : SH 102 = .inr (0, 200) := rfl
theorem aw_102 {n : Nat} (h : 102 < n) : alw n 102 0 = 200 := by unfold alw; rw [if_pos h]; rfl
theorem al_102 {M : pM} {n : Nat} (h : 102 < n) : aln M n 102 0 = 200 := by unfold aln; rw [if_neg (by decide), if_neg (by decide)]; exact aw_102 h
theorem sh_103 : SH 103 = .inr (0, 36) := rfl
theorem aw_103 {n : Nat} (h : 103 < n) : alw n 103 0 = 36 := by unfold alw; rw [if_pos h]; rfl
theorem al_103 {M : pM} {n : Nat} (h : 103 < n) : aln M n 103 0 = 36 := by unfold aln; rw [if_neg (by decide), if_neg (by decide)]; exact aw_103 h
theorem sh_104 : SH 104 = .inr (0, 36) := rfl
theorem aw_104 {n : Nat} (h : 104 < n) : alw n 104 0 = 36 := by unfold alw; rw [if_pos h]; rfl
theorem al_104 {M : pM} {n : Nat} (h : 104 < n) : aln M n 104 0 = 36 := by unfold aln; rw [if_neg (by decide), if_neg (by decide)]; exact aw_104 h
theorem sh_105 : SH 105 = .inr (0, 36) := rfl
theorem aw_105 {n : Nat} (h : 105 < n) : alw n 105 0 = 36 := by unfold alw; rw [if_pos h]; rfl
theorem al_105 {M : pM} {n : Nat} (h : 105 < n) : aln M n 105 0 = 36 := by unfold aln; rw [if_neg (by decide), if_neg (by decide)]; exact aw_105 h
theorem sh_106 : SH 106 = .inr (0, 36) := rfl
theorem aw_106 {n : Nat} (h : 106 < n) : alw n 106 0 = 36 := by unfold alw; rw [if_pos h]; rfl
theorem al_106 {M : pM} {n : Nat} (h : 106 < n) : aln M n 106 0 = 36 := by unfold aln; rw [if_neg (by decide), if_neg (by decide)]; exact aw_106 h
theorem sh_107 : SH 107 = .inr (0, 4) := rfl
theorem aw_107 {n : Nat} (h : 107 < n) : alw n 107 0 = 4 := by unfold alw; rw [if_pos h]; rfl
theorem al_107 {M : pM} {n : Nat} (h : 107 < n) : aln M n 107 0 = 4 := by unfold aln; rw [if_neg (by decide), if_neg (by decide)]; exact aw_107 h
theorem sh_108 : SH 108 = .inr (0, 600) := rfl
theorem aw_108 {n : Nat} (h : 108 < n) : alw n 108 0 = 600 := by unfold alw; rw [if_pos h]; rfl
theorem al_108 {M : pM} {n : Nat} (h : 108 < n) : aln M n 108 0 = 600 := by unfold aln; rw [if_neg (by decide), if_neg (by decide)]; exact aw_108 h
theorem sh_109 : SH 109 = .inr (0, 600) := rfl
theorem aw_109 {n : Nat} (h : 109 < n) : alw n 109 0 = 600 := by unfold alw; rw [if_pos h]; rfl
theorem al_109 {M : pM} {n : Nat} (h : 109 < n) : aln M n 109 0 = 600 := by unfold aln; rw [if_neg (by decide), if_neg (by decide)]; exact aw_109 h
theorem sh_110 : SH 110 = .inr (0, 2) := rfl
theorem aw_110 {n : Nat} (h : 110 < n) : alw n 110 0 = 2 := by unfold alw; rw [if_pos h]; rfl
theorem al_110 {M : pM} {n : Nat} (h : 110 < n) : aln M n 110 0 = 2 := by unfold aln; rw [if_neg (by decide), if_neg (by decide)]; exact aw_110 h
theorem sh_111 : SH 111 = .inr (0, 80) := rfl
theorem aw_111 {n : Nat} (h : 111 < n) : alw n 111 0 = 80 := by unfold alw; rw [if_pos h]; rfl
theorem al_111 {M : pM} {n : Nat} (h : 111 < n) : aln M n 111 0 = 80 := by unfold aln; rw [if_neg (by decide), if_neg (by decide)]; exact aw_111 h
theorem sh_112 : SH 112 = .inr (0, 80) := rfl
theorem aw_112 {n : Nat} (h : 112 < n) : alw n 112 0 = 80 := by unfold alw; rw [if_pos h]; rfl
theorem al_112 {M : pM} {n : Nat} (h : 112 < n) : aln M n 112 0 = 80 := by unfold aln; rw [if_neg (by decide), if_neg (by decide)]; exact aw_112 h
theorem sh_113 : SH 113 = .inr (0, 80) := rfl
theorem aw_113 {n : Nat} (h : 113 < n) : alw n 113 0 = 80 := by unfold alw; rw [if_pos h]; rfl
theorem al_113 {M : pM} {n : Nat} (h : 113 < n) : aln M n 113 0 = 80 := by unfold aln; rw [if_neg (by decide), if_neg (by decide)]; exact aw_113 h
theorem sh_114 : SH 114 = .inr (0, 4096) := rfl
theorem aw_114 {n : Nat} (h : 114 < n) : alw n 114 0 = 4096 := by unfold alw; rw [if_pos h]; rfl
theorem al_114 {M : pM} {n : Nat} (h : 114 < n) : aln M n 114 0 = 4096 := by unfold aln; rw [if_neg (by decide), if_neg (by decide)]; exact aw_114 h
theorem sh_115 : SH 115 = .inr (0, 9) := rfl
theorem aw_115 {n : Nat} (h : 115 < n) : alw n 115 0 = 9 := by unfold alw; rw [if_pos h]; rfl
theorem al_115 {M : pM} {n : Nat} (h : 115 < n) : aln M n 115 0 = 9 := by unfold aln; rw [if_neg (by decide), if_neg (by decide)]; exact aw_115 h
theorem sh_116 : SH 116 = .inr (0, 9) := rfl
theorem aw_116 {n : Nat} (h : 116 < n) : alw n 116 0 = 9 := by unfold alw; rw [if_pos h]; rfl
theorem al_116 {M : pM} {n : Nat} (h : 116 < n) : aln M n 116 0 = 9 := by unfold aln; rw [if_neg (by decide), if_neg (by decide)]; exact aw_116 h
theorem sh_117 : SH 117 = .inr (0, 9) := rfl
theorem aw_117 {n : Nat} (h : 117 < n) : alw n 117 0 = 9 := by unfold alw; rw [if_pos h]; rfl
theorem al_117 {M : pM} {n : Nat} (h : 117 < n) : aln M n 117 0 = 9 := by unfold aln; rw [if_neg (by decide), if_neg (by decide)]; exact aw_117 h
theorem sh_118 : SH 118 = .inr (0, 3) := rfl
theorem aw_118 {n : Nat} (h : 118 < n) : alw n 118 0 = 3 := by unfold alw; rw [if_pos h]; rfl
theorem al_118 {M : pM} {n : Nat} (h : 118 < n) : aln M n 118 0 = 3 := by unfold aln; rw [if_neg (by decide), if_neg (by decide)]; exact aw_118 h
theorem al_1000 {M : pM} {n : Nat} : aln M n 1000 0 = 8 := by unfold aln; rw [if_neg (by decide), if_pos (by decide)]
theorem al_1001 {M : pM} {n : Nat} : aln M n 1001 0 = 8 := by unfold aln; rw [if_neg (by decide), if_pos (by decide)]
theorem al_1002 {M : pM} {n : Nat} : aln M n 1002 0 = M 1003 0 := by unfold aln; rw [if_pos (by decide)]
theorem stk_n : stk [] = 0 := rfl
theorem stk_i {x : Int} {S : List pv} : stk (vi x :: S) = stk S + 1 := by unfold stk; rw [List.map_cons, List.sum_cons]; show 1 + _ = _; omega
theorem stk_r {x : Nat} {S : List pv} : stk (vr x :: S) = stk S + 1 := by unfold stk; rw [List.map_cons, List.sum_cons]; show 1 + _ = _; omega
theorem stk_l {x : Int} {S : List pv} : stk (vl x :: S) = stk S + 2 := by unfold stk; rw [List.map_cons, List.sum_cons]; show 2 + _ = _; omega
