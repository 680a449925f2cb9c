-- nk5_0
theorem cr_360 (M : pM) (s0 : Int) (b0 : (-9223372036854775808) ≤ s0 ∧ s0 ≤ 9223372036854775807) (m0 : HP 142 (4 : Int) (s0) M) (f0 : 0 ≤ ((-1) * s0 + 2002873451)) (hG : gI M) : (HP 142 (5 : Int) (s0) M ∧ True) := by
  exact ⟨Eq.mpr hp_142 (fun k h1 h2 => if e : k = 4 then (by subst e; exact qwn_v 2002873452 (by decide) (by omega)) else Eq.mp hp_142 m0 k h1 (by omega)), trivial⟩

-- nk5_1
theorem cr_361 (M : pM) (s0 : Int) (b0 : (-9223372036854775808) ≤ s0 ∧ s0 ≤ 9223372036854775807) (m0 : HP 142 (4 : Int) (s0) M) (f0 : 0 ≤ (s0 - 2002873453)) (hG : gI M) : (HP 142 (5 : Int) (s0) M ∧ True) := by
  exact ⟨Eq.mpr hp_142 (fun k h1 h2 => if e : k = 4 then (by subst e; exact qwn_v 2002873452 (by decide) (by omega)) else Eq.mp hp_142 m0 k h1 (by omega)), trivial⟩

-- wk4
theorem cr_362 (M : pM) (s0 : Int) (b0 : (-9223372036854775808) ≤ s0 ∧ s0 ≤ 9223372036854775807) (f0 : 0 ≤ ((-1) * s0 + 2002873452)) (f1 : 0 ≤ (s0 - 2002873452)) (hG : gI M) : (HP 140 (4 : Int) (s0) M ∧ True) := by
  exact ⟨Eq.mpr hp_140 ⟨4, by decide, by decide, by rw [show qwn 4 = 2002873452 by decide]; omega⟩, trivial⟩

-- nk6_0
theorem cr_363 (M : pM) (s0 : Int) (b0 : (-9223372036854775808) ≤ s0 ∧ s0 ≤ 9223372036854775807) (m0 : HP 142 (5 : Int) (s0) M) (f0 : 0 ≤ ((-1) * s0 + 418263299684)) (hG : gI M) : (HP 142 (6 : Int) (s0) M ∧ True) := by
  exact ⟨Eq.mpr hp_142 (fun k h1 h2 => if e : k = 5 then (by subst e; exact qwn_v 418263299685 (by decide) (by omega)) else Eq.mp hp_142 m0 k h1 (by omega)), trivial⟩

-- nk6_1
theorem cr_364 (M : pM) (s0 : Int) (b0 : (-9223372036854775808) ≤ s0 ∧ s0 ≤ 9223372036854775807) (m0 : HP 142 (5 : Int) (s0) M) (f0 : 0 ≤ (s0 - 418263299686)) (hG : gI M) : (HP 142 (6 : Int) (s0) M ∧ True) := by
  exact ⟨Eq.mpr hp_142 (fun k h1 h2 => if e : k = 5 then (by subst e; exact qwn_v 418263299685 (by decide) (by omega)) else Eq.mp hp_142 m0 k h1 (by omega)), trivial⟩

-- wk5
theorem cr_365 (M : pM) (s0 : Int) (b0 : (-9223372036854775808) ≤ s0 ∧ s0 ≤ 9223372036854775807) (f0 : 0 ≤ ((-1) * s0 + 418263299685)) (f1 : 0 ≤ (s0 - 418263299685)) (hG : gI M) : (HP 140 (5 : Int) (s0) M ∧ True) := by
  exact ⟨Eq.mpr hp_140 ⟨5, by decide, by decide, by rw [show qwn 5 = 418263299685 by decide]; omega⟩, trivial⟩

-- nk7_0
theorem cr_366 (M : pM) (s0 : Int) (b0 : (-9223372036854775808) ≤ s0 ∧ s0 ≤ 9223372036854775807) (m0 : HP 142 (6 : Int) (s0) M) (f0 : 0 ≤ ((-1) * s0 + 1718775660)) (hG : gI M) : (HP 142 (7 : Int) (s0) M ∧ True) := by
  exact ⟨Eq.mpr hp_142 (fun k h1 h2 => if e : k = 6 then (by subst e; exact qwn_v 1718775661 (by decide) (by omega)) else Eq.mp hp_142 m0 k h1 (by omega)), trivial⟩

-- nk7_1
theorem cr_367 (M : pM) (s0 : Int) (b0 : (-9223372036854775808) ≤ s0 ∧ s0 ≤ 9223372036854775807) (m0 : HP 142 (6 : Int) (s0) M) (f0 : 0 ≤ (s0 - 1718775662)) (hG : gI M) : (HP 142 (7 : Int) (s0) M ∧ True) := by
  exact ⟨Eq.mpr hp_142 (fun k h1 h2 => if e : k = 6 then (by subst e; exact qwn_v 1718775661 (by decide) (by omega)) else Eq.mp hp_142 m0 k h1 (by omega)), trivial⟩

-- wk6
theorem cr_368 (M : pM) (s0 : Int) (b0 : (-9223372036854775808) ≤ s0 ∧ s0 ≤ 9223372036854775807) (f0 : 0 ≤ ((-1) * s0 + 1718775661)) (f1 : 0 ≤ (s0 - 1718775661)) (hG : gI M) : (HP 140 (6 : Int) (s0) M ∧ True) := by
  exact ⟨Eq.mpr hp_140 ⟨6, by decide, by decide, by rw [show qwn 6 = 1718775661 by decide]; omega⟩, trivial⟩

-- nk8_0
theorem cr_369 (M : pM) (s0 : Int) (b0 : (-9223372036854775808) ≤ s0 ∧ s0 ≤ 9223372036854775807) (m0 : HP 142 (7 : Int) (s0) M) (f0 : 0 ≤ ((-1) * s0 + 29806)) (hG : gI M) : (HP 142 (8 : Int) (s0) M ∧ True) := by
  exact ⟨Eq.mpr hp_142 (fun k h1 h2 => if e : k = 7 then (by subst e; exact qwn_v 29807 (by decide) (by omega)) else Eq.mp hp_142 m0 k h1 (by omega)), trivial⟩

-- nk8_1
theorem cr_370 (M : pM) (s0 : Int) (b0 : (-9223372036854775808) ≤ s0 ∧ s0 ≤ 9223372036854775807) (m0 : HP 142 (7 : Int) (s0) M) (f0 : 0 ≤ (s0 - 29808)) (hG : gI M) : (HP 142 (8 : Int) (s0) M ∧ True) := by
  exact ⟨Eq.mpr hp_142 (fun k h1 h2 => if e : k = 7 then (by subst e; exact qwn_v 29807 (by decide) (by omega)) else Eq.mp hp_142 m0 k h1 (by omega)), trivial⟩

-- wk7
theorem cr_371 (M : pM) (s0 : Int) (b0 : (-9223372036854775808) ≤ s0 ∧ s0 ≤ 9223372036854775807) (f0 : 0 ≤ ((-1) * s0 + 29807)) (f1 : 0 ≤ (s0 - 29807)) (hG : gI M) : (HP 140 (7 : Int) (s0) M ∧ True) := by
  exact ⟨Eq.mpr hp_140 ⟨7, by decide, by decide, by rw [show qwn 7 = 29807 by decide]; omega⟩, trivial⟩

-- nk9_0
theorem cr_372 (M : pM) (s0 : Int) (b0 : (-9223372036854775808) ≤ s0 ∧ s0 ≤ 9223372036854775807) (m0 : HP 142 (8 : Int) (s0) M) (f0 : 0 ≤ ((-1) * s0 + 439854918755)) (hG : gI M) : (HP 142 (9 : Int) (s0) M ∧ True) := by
  exact ⟨Eq.mpr hp_142 (fun k h1 h2 => if e : k = 8 then (by subst e; exact qwn_v 439854918756 (by decide) (by omega)) else Eq.mp hp_142 m0 k h1 (by omega)), trivial⟩

-- nk9_1
theorem cr_373 (M : pM) (s0 : Int) (b0 : (-9223372036854775808) ≤ s0 ∧ s0 ≤ 9223372036854775807) (m0 : HP 142 (8 : Int) (s0) M) (f0 : 0 ≤ (s0 - 439854918757)) (hG : gI M) : (HP 142 (9 : Int) (s0) M ∧ True) := by
  exact ⟨Eq.mpr hp_142 (fun k h1 h2 => if e : k = 8 then (by subst e; exact qwn_v 439854918756 (by decide) (by omega)) else Eq.mp hp_142 m0 k h1 (by omega)), trivial⟩

-- wk8
theorem cr_374 (M : pM) (s0 : Int) (b0 : (-9223372036854775808) ≤ s0 ∧ s0 ≤ 9223372036854775807) (f0 : 0 ≤ ((-1) * s0 + 439854918756)) (f1 : 0 ≤ (s0 - 439854918756)) (hG : gI M) : (HP 140 (8 : Int) (s0) M ∧ True) := by
  exact ⟨Eq.mpr hp_140 ⟨8, by decide, by decide, by rw [show qwn 8 = 439854918756 by decide]; omega⟩, trivial⟩

-- nk10_0
theorem cr_375 (M : pM) (s0 : Int) (b0 : (-9223372036854775808) ≤ s0 ∧ s0 ≤ 9223372036854775807) (m0 : HP 142 (9 : Int) (s0) M) (f0 : 0 ≤ ((-1) * s0 + 1919902051)) (hG : gI M) : (HP 142 (10 : Int) (s0) M ∧ True) := by
  exact ⟨Eq.mpr hp_142 (fun k h1 h2 => if e : k = 9 then (by subst e; exact qwn_v 1919902052 (by decide) (by omega)) else Eq.mp hp_142 m0 k h1 (by omega)), trivial⟩

-- nk10_1
theorem cr_376 (M : pM) (s0 : Int) (b0 : (-9223372036854775808) ≤ s0 ∧ s0 ≤ 9223372036854775807) (m0 : HP 142 (9 : Int) (s0) M) (f0 : 0 ≤ (s0 - 1919902053)) (hG : gI M) : (HP 142 (10 : Int) (s0) M ∧ True) := by
  exact ⟨Eq.mpr hp_142 (fun k h1 h2 => if e : k = 9 then (by subst e; exact qwn_v 1919902052 (by decide) (by omega)) else Eq.mp hp_142 m0 k h1 (by omega)), trivial⟩

-- wk9
theorem cr_377 (M : pM) (s0 : Int) (b0 : (-9223372036854775808) ≤ s0 ∧ s0 ≤ 9223372036854775807) (f0 : 0 ≤ ((-1) * s0 + 1919902052)) (f1 : 0 ≤ (s0 - 1919902052)) (hG : gI M) : (HP 140 (9 : Int) (s0) M ∧ True) := by
  exact ⟨Eq.mpr hp_140 ⟨9, by decide, by decide, by rw [show qwn 9 = 1919902052 by decide]; omega⟩, trivial⟩

-- nk11_0
theorem cr_378 (M : pM) (s0 : Int) (b0 : (-9223372036854775808) ≤ s0 ∧ s0 ≤ 9223372036854775807) (m0 : HP 142 (10 : Int) (s0) M) (f0 : 0 ≤ ((-1) * s0 + 113715322316145)) (hG : gI M) : (HP 142 (11 : Int) (s0) M ∧ True) := by
  exact ⟨Eq.mpr hp_142 (fun k h1 h2 => if e : k = 10 then (by subst e; exact qwn_v 113715322316146 (by decide) (by omega)) else Eq.mp hp_142 m0 k h1 (by omega)), trivial⟩

-- nk11_1
theorem cr_379 (M : pM) (s0 : Int) (b0 : (-9223372036854775808) ≤ s0 ∧ s0 ≤ 9223372036854775807) (m0 : HP 142 (10 : Int) (s0) M) (f0 : 0 ≤ (s0 - 113715322316147)) (hG : gI M) : (HP 142 (11 : Int) (s0) M ∧ True) := by
  exact ⟨Eq.mpr hp_142 (fun k h1 h2 => if e : k = 10 then (by subst e; exact qwn_v 113715322316146 (by decide) (by omega)) else Eq.mp hp_142 m0 k h1 (by omega)), trivial⟩

-- wk10
theorem cr_380 (M : pM) (s0 : Int) (b0 : (-9223372036854775808) ≤ s0 ∧ s0 ≤ 9223372036854775807) (f0 : 0 ≤ ((-1) * s0 + 113715322316146)) (f1 : 0 ≤ (s0 - 113715322316146)) (hG : gI M) : (HP 140 (10 : Int) (s0) M ∧ True) := by
  exact ⟨Eq.mpr hp_140 ⟨10, by decide, by decide, by rw [show qwn 10 = 113715322316146 by decide]; omega⟩, trivial⟩

-- nk12_0
theorem cr_381 (M : pM) (s0 : Int) (b0 : (-9223372036854775808) ≤ s0 ∧ s0 ≤ 9223372036854775807) (m0 : HP 142 (11 : Int) (s0) M) (f0 : 0 ≤ ((-1) * s0 + 1936289386)) (hG : gI M) : (HP 142 (12 : Int) (s0) M ∧ True) := by
  exact ⟨Eq.mpr hp_142 (fun k h1 h2 => if e : k = 11 then (by subst e; exact qwn_v 1936289387 (by decide) (by omega)) else Eq.mp hp_142 m0 k h1 (by omega)), trivial⟩

-- nk12_1
theorem cr_382 (M : pM) (s0 : Int) (b0 : (-9223372036854775808) ≤ s0 ∧ s0 ≤ 9223372036854775807) (m0 : HP 142 (11 : Int) (s0) M) (f0 : 0 ≤ (s0 - 1936289388)) (hG : gI M) : (HP 142 (12 : Int) (s0) M ∧ True) := by
  exact ⟨Eq.mpr hp_142 (fun k h1 h2 => if e : k = 11 then (by subst e; exact qwn_v 1936289387 (by decide) (by omega)) else Eq.mp hp_142 m0 k h1 (by omega)), trivial⟩

-- wk11
theorem cr_383 (M : pM) (s0 : Int) (b0 : (-9223372036854775808) ≤ s0 ∧ s0 ≤ 9223372036854775807) (f0 : 0 ≤ ((-1) * s0 + 1936289387)) (f1 : 0 ≤ (s0 - 1936289387)) (hG : gI M) : (HP 140 (11 : Int) (s0) M ∧ True) := by
  exact ⟨Eq.mpr hp_140 ⟨11, by decide, by decide, by rw [show qwn 11 = 1936289387 by decide]; omega⟩, trivial⟩

-- nk13_0
theorem cr_384 (M : pM) (s0 : Int) (b0 : (-9223372036854775808) ≤ s0 ∧ s0 ≤ 9223372036854775807) (m0 : HP 142 (12 : Int) (s0) M) (f0 : 0 ≤ ((-1) * s0 + 7521414230229344623)) (hG : gI M) : (HP 142 (13 : Int) (s0) M ∧ True) := by
  exact ⟨Eq.mpr hp_142 (fun k h1 h2 => if e : k = 12 then (by subst e; exact qwn_v 7521414230229344624 (by decide) (by omega)) else Eq.mp hp_142 m0 k h1 (by omega)), trivial⟩

-- nk13_1
theorem cr_385 (M : pM) (s0 : Int) (b0 : (-9223372036854775808) ≤ s0 ∧ s0 ≤ 9223372036854775807) (m0 : HP 142 (12 : Int) (s0) M) (f0 : 0 ≤ (s0 - 7521414230229344625)) (hG : gI M) : (HP 142 (13 : Int) (s0) M ∧ True) := by
  exact ⟨Eq.mpr hp_142 (fun k h1 h2 => if e : k = 12 then (by subst e; exact qwn_v 7521414230229344624 (by decide) (by omega)) else Eq.mp hp_142 m0 k h1 (by omega)), trivial⟩

-- wk12
theorem cr_386 (M : pM) (s0 : Int) (b0 : (-9223372036854775808) ≤ s0 ∧ s0 ≤ 9223372036854775807) (f0 : 0 ≤ ((-1) * s0 + 7521414230229344624)) (f1 : 0 ≤ (s0 - 7521414230229344624)) (hG : gI M) : (HP 140 (12 : Int) (s0) M ∧ True) := by
  exact ⟨Eq.mpr hp_140 ⟨12, by decide, by decide, by rw [show qwn 12 = 7521414230229344624 by decide]; omega⟩, trivial⟩

-- nk14_0
theorem cr_387 (M : pM) (s0 : Int) (b0 : (-9223372036854775808) ≤ s0 ∧ s0 ≤ 9223372036854775807) (m0 : HP 142 (13 : Int) (s0) M) (f0 : 0 ≤ ((-1) * s0 + 495589487204)) (hG : gI M) : (HP 142 (14 : Int) (s0) M ∧ True) := by
  exact ⟨Eq.mpr hp_142 (fun k h1 h2 => if e : k = 13 then (by subst e; exact qwn_v 495589487205 (by decide) (by omega)) else Eq.mp hp_142 m0 k h1 (by omega)), trivial⟩

-- nk14_1
theorem cr_388 (M : pM) (s0 : Int) (b0 : (-9223372036854775808) ≤ s0 ∧ s0 ≤ 9223372036854775807) (m0 : HP 142 (13 : Int) (s0) M) (f0 : 0 ≤ (s0 - 495589487206)) (hG : gI M) : (HP 142 (14 : Int) (s0) M ∧ True) := by
  exact ⟨Eq.mpr hp_142 (fun k h1 h2 => if e : k = 13 then (by subst e; exact qwn_v 495589487205 (by decide) (by omega)) else Eq.mp hp_142 m0 k h1 (by omega)), trivial⟩

-- wk13
theorem cr_389 (M : pM) (s0 : Int) (b0 : (-9223372036854775808) ≤ s0 ∧ s0 ≤ 9223372036854775807) (f0 : 0 ≤ ((-1) * s0 + 495589487205)) (f1 : 0 ≤ (s0 - 495589487205)) (hG : gI M) : (HP 140 (13 : Int) (s0) M ∧ True) := by
  exact ⟨Eq.mpr hp_140 ⟨13, by decide, by decide, by rw [show qwn 13 = 495589487205 by decide]; omega⟩, trivial⟩

-- nk15_0
theorem cr_390 (M : pM) (s0 : Int) (b0 : (-9223372036854775808) ≤ s0 ∧ s0 ≤ 9223372036854775807) (m0 : HP 142 (14 : Int) (s0) M) (f0 : 0 ≤ ((-1) * s0 + 6385251)) (hG : gI M) : (HP 142 (15 : Int) (s0) M ∧ True) := by
  exact ⟨Eq.mpr hp_142 (fun k h1 h2 => if e : k = 14 then (by subst e; exact qwn_v 6385252 (by decide) (by omega)) else Eq.mp hp_142 m0 k h1 (by omega)), trivial⟩

-- nk15_1
theorem cr_391 (M : pM) (s0 : Int) (b0 : (-9223372036854775808) ≤ s0 ∧ s0 ≤ 9223372036854775807) (m0 : HP 142 (14 : Int) (s0) M) (f0 : 0 ≤ (s0 - 6385253)) (hG : gI M) : (HP 142 (15 : Int) (s0) M ∧ True) := by
  exact ⟨Eq.mpr hp_142 (fun k h1 h2 => if e : k = 14 then (by subst e; exact qwn_v 6385252 (by decide) (by omega)) else Eq.mp hp_142 m0 k h1 (by omega)), trivial⟩

-- wk14
theorem cr_392 (M : pM) (s0 : Int) (b0 : (-9223372036854775808) ≤ s0 ∧ s0 ≤ 9223372036854775807) (f0 : 0 ≤ ((-1) * s0 + 6385252)) (f1 : 0 ≤ (s0 - 6385252)) (hG : gI M) : (HP 140 (14 : Int) (s0) M ∧ True) := by
  exact ⟨Eq.mpr hp_140 ⟨14, by decide, by decide, by rw [show qwn 14 = 6385252 by decide]; omega⟩, trivial⟩

-- nk16_0
theorem cr_393 (M : pM) (s0 : Int) (b0 : (-9223372036854775808) ≤ s0 ∧ s0 ≤ 9223372036854775807) (m0 : HP 142 (15 : Int) (s0) M) (f0 : 0 ≤ ((-1) * s0 + 28529)) (hG : gI M) : (HP 142 (16 : Int) (s0) M ∧ True) := by
  exact ⟨Eq.mpr hp_142 (fun k h1 h2 => if e : k = 15 then (by subst e; exact qwn_v 28530 (by decide) (by omega)) else Eq.mp hp_142 m0 k h1 (by omega)), trivial⟩

-- nk16_1
theorem cr_394 (M : pM) (s0 : Int) (b0 : (-9223372036854775808) ≤ s0 ∧ s0 ≤ 9223372036854775807) (m0 : HP 142 (15 : Int) (s0) M) (f0 : 0 ≤ (s0 - 28531)) (hG : gI M) : (HP 142 (16 : Int) (s0) M ∧ True) := by
  exact ⟨Eq.mpr hp_142 (fun k h1 h2 => if e : k = 15 then (by subst e; exact qwn_v 28530 (by decide) (by omega)) else Eq.mp hp_142 m0 k h1 (by omega)), trivial⟩

-- wk15
theorem cr_395 (M : pM) (s0 : Int) (b0 : (-9223372036854775808) ≤ s0 ∧ s0 ≤ 9223372036854775807) (f0 : 0 ≤ ((-1) * s0 + 28530)) (f1 : 0 ≤ (s0 - 28530)) (hG : gI M) : (HP 140 (15 : Int) (s0) M ∧ True) := by
  exact ⟨Eq.mpr hp_140 ⟨15, by decide, by decide, by rw [show qwn 15 = 28530 by decide]; omega⟩, trivial⟩

-- nk17_0
theorem cr_396 (M : pM) (s0 : Int) (b0 : (-9223372036854775808) ≤ s0 ∧ s0 ≤ 9223372036854775807) (m0 : HP 142 (16 : Int) (s0) M) (f0 : 0 ≤ ((-1) * s0 + 7237491)) (hG : gI M) : (HP 142 (17 : Int) (s0) M ∧ True) := by
  exact ⟨Eq.mpr hp_142 (fun k h1 h2 => if e : k = 16 then (by subst e; exact qwn_v 7237492 (by decide) (by omega)) else Eq.mp hp_142 m0 k h1 (by omega)), trivial⟩

-- nk17_1
theorem cr_397 (M : pM) (s0 : Int) (b0 : (-9223372036854775808) ≤ s0 ∧ s0 ≤ 9223372036854775807) (m0 : HP 142 (16 : Int) (s0) M) (f0 : 0 ≤ (s0 - 7237493)) (hG : gI M) : (HP 142 (17 : Int) (s0) M ∧ True) := by
  exact ⟨Eq.mpr hp_142 (fun k h1 h2 => if e : k = 16 then (by subst e; exact qwn_v 7237492 (by decide) (by omega)) else Eq.mp hp_142 m0 k h1 (by omega)), trivial⟩

-- wk16
theorem cr_398 (M : pM) (s0 : Int) (b0 : (-9223372036854775808) ≤ s0 ∧ s0 ≤ 9223372036854775807) (f0 : 0 ≤ ((-1) * s0 + 7237492)) (f1 : 0 ≤ (s0 - 7237492)) (hG : gI M) : (HP 140 (16 : Int) (s0) M ∧ True) := by
  exact ⟨Eq.mpr hp_140 ⟨16, by decide, by decide, by rw [show qwn 16 = 7237492 by decide]; omega⟩, trivial⟩

-- nk18_0
theorem cr_399 (M : pM) (s0 : Int) (b0 : (-9223372036854775808) ≤ s0 ∧ s0 ≤ 9223372036854775807) (m0 : HP 142 (17 : Int) (s0) M) (f0 : 0 ≤ ((-1) * s0 + 1685024356)) (hG : gI M) : (HP 142 (18 : Int) (s0) M ∧ True) := by
  exact ⟨Eq.mpr hp_142 (fun k h1 h2 => if e : k = 17 then (by subst e; exact qwn_v 1685024357 (by decide) (by omega)) else Eq.mp hp_142 m0 k h1 (by omega)), trivial⟩

-- nk18_1
theorem cr_400 (M : pM) (s0 : Int) (b0 : (-9223372036854775808) ≤ s0 ∧ s0 ≤ 9223372036854775807) (m0 : HP 142 (17 : Int) (s0) M) (f0 : 0 ≤ (s0 - 1685024358)) (hG : gI M) : (HP 142 (18 : Int) (s0) M ∧ True) := by
  exact ⟨Eq.mpr hp_142 (fun k h1 h2 => if e : k = 17 then (by subst e; exact qwn_v 1685024357 (by decide) (by omega)) else Eq.mp hp_142 m0 k h1 (by omega)), trivial⟩

-- wk17
theorem cr_401 (M : pM) (s0 : Int) (b0 : (-9223372036854775808) ≤ s0 ∧ s0 ≤ 9223372036854775807) (f0 : 0 ≤ ((-1) * s0 + 1685024357)) (f1 : 0 ≤ (s0 - 1685024357)) (hG : gI M) : (HP 140 (17 : Int) (s0) M ∧ True) := by
  exact ⟨Eq.mpr hp_140 ⟨17, by decide, by decide, by rw [show qwn 17 = 1685024357 by decide]; omega⟩, trivial⟩

-- nk19_0
theorem cr_402 (M : pM) (s0 : Int) (b0 : (-9223372036854775808) ≤ s0 ∧ s0 ≤ 9223372036854775807) (m0 : HP 142 (18 : Int) (s0) M) (f0 : 0 ≤ ((-1) * s0 + 1818584946)) (hG : gI M) : (HP 142 (19 : Int) (s0) M ∧ True) := by
  exact ⟨Eq.mpr hp_142 (fun k h1 h2 => if e : k = 18 then (by subst e; exact qwn_v 1818584947 (by decide) (by omega)) else Eq.mp hp_142 m0 k h1 (by omega)), trivial⟩

-- nk19_1
theorem cr_403 (M : pM) (s0 : Int) (b0 : (-9223372036854775808) ≤ s0 ∧ s0 ≤ 9223372036854775807) (m0 : HP 142 (18 : Int) (s0) M) (f0 : 0 ≤ (s0 - 1818584948)) (hG : gI M) : (HP 142 (19 : Int) (s0) M ∧ True) := by
  exact ⟨Eq.mpr hp_142 (fun k h1 h2 => if e : k = 18 then (by subst e; exact qwn_v 1818584947 (by decide) (by omega)) else Eq.mp hp_142 m0 k h1 (by omega)), trivial⟩

-- wk18
theorem cr_404 (M : pM) (s0 : Int) (b0 : (-9223372036854775808) ≤ s0 ∧ s0 ≤ 9223372036854775807) (f0 : 0 ≤ ((-1) * s0 + 1818584947)) (f1 : 0 ≤ (s0 - 1818584947)) (hG : gI M) : (HP 140 (18 : Int) (s0) M ∧ True) := by
  exact ⟨Eq.mpr hp_140 ⟨18, by decide, by decide, by rw [show qwn 18 = 1818584947 by decide]; omega⟩, trivial⟩

-- nk20_0
theorem cr_405 (M : pM) (s0 : Int) (b0 : (-9223372036854775808) ≤ s0 ∧ s0 ≤ 9223372036854775807) (m0 : HP 142 (19 : Int) (s0) M) (f0 : 0 ≤ ((-1) * s0 + 1953066340)) (hG : gI M) : (HP 142 (20 : Int) (s0) M ∧ True) := by
  exact ⟨Eq.mpr hp_142 (fun k h1 h2 => if e : k = 19 then (by subst e; exact qwn_v 1953066341 (by decide) (by omega)) else Eq.mp hp_142 m0 k h1 (by omega)), trivial⟩

-- nk20_1
theorem cr_406 (M : pM) (s0 : Int) (b0 : (-9223372036854775808) ≤ s0 ∧ s0 ≤ 9223372036854775807) (m0 : HP 142 (19 : Int) (s0) M) (f0 : 0 ≤ (s0 - 1953066342)) (hG : gI M) : (HP 142 (20 : Int) (s0) M ∧ True) := by
  exact ⟨Eq.mpr hp_142 (fun k h1 h2 => if e : k = 19 then (by subst e; exact qwn_v 1953066341 (by decide) (by omega)) else Eq.mp hp_142 m0 k h1 (by omega)), trivial⟩

-- wk19
theorem cr_407 (M : pM) (s0 : Int) (b0 : (-9223372036854775808) ≤ s0 ∧ s0 ≤ 9223372036854775807) (f0 : 0 ≤ ((-1) * s0 + 1953066341)) (f1 : 0 ≤ (s0 - 1953066341)) (hG : gI M) : (HP 140 (19 : Int) (s0) M ∧ True) := by
  exact ⟨Eq.mpr hp_140 ⟨19, by decide, by decide, by rw [show qwn 19 = 1953066341 by decide]; omega⟩, trivial⟩

-- nk21_0
theorem cr_408 (M : pM) (s0 : Int) (b0 : (-9223372036854775808) ≤ s0 ∧ s0 ≤ 9223372036854775807) (m0 : HP 142 (20 : Int) (s0) M) (f0 : 0 ≤ ((-1) * s0 + 1650815859)) (hG : gI M) : (HP 142 (21 : Int) (s0) M ∧ True) := by
  exact ⟨Eq.mpr hp_142 (fun k h1 h2 => if e : k = 20 then (by subst e; exact qwn_v 1650815860 (by decide) (by omega)) else Eq.mp hp_142 m0 k h1 (by omega)), trivial⟩

-- nk21_1
theorem cr_409 (M : pM) (s0 : Int) (b0 : (-9223372036854775808) ≤ s0 ∧ s0 ≤ 9223372036854775807) (m0 : HP 142 (20 : Int) (s0) M) (f0 : 0 ≤ (s0 - 1650815861)) (hG : gI M) : (HP 142 (21 : Int) (s0) M ∧ True) := by
  exact ⟨Eq.mpr hp_142 (fun k h1 h2 => if e : k = 20 then (by subst e; exact qwn_v 1650815860 (by decide) (by omega)) else Eq.mp hp_142 m0 k h1 (by omega)), trivial⟩

-- wk20
theorem cr_410 (M : pM) (s0 : Int) (b0 : (-9223372036854775808) ≤ s0 ∧ s0 ≤ 9223372036854775807) (f0 : 0 ≤ ((-1) * s0 + 1650815860)) (f1 : 0 ≤ (s0 - 1650815860)) (hG : gI M) : (HP 140 (20 : Int) (s0) M ∧ True) := by
  exact ⟨Eq.mpr hp_140 ⟨20, by decide, by decide, by rw [show qwn 20 = 1650815860 by decide]; omega⟩, trivial⟩

-- nk22_0
theorem cr_411 (M : pM) (s0 : Int) (b0 : (-9223372036854775808) ≤ s0 ∧ s0 ≤ 9223372036854775807) (m0 : HP 142 (21 : Int) (s0) M) (f0 : 0 ≤ ((-1) * s0 + 439855772531)) (hG : gI M) : (HP 142 (22 : Int) (s0) M ∧ True) := by
  exact ⟨Eq.mpr hp_142 (fun k h1 h2 => if e : k = 21 then (by subst e; exact qwn_v 439855772532 (by decide) (by omega)) else Eq.mp hp_142 m0 k h1 (by omega)), trivial⟩

-- nk22_1
theorem cr_412 (M : pM) (s0 : Int) (b0 : (-9223372036854775808) ≤ s0 ∧ s0 ≤ 9223372036854775807) (m0 : HP 142 (21 : Int) (s0) M) (f0 : 0 ≤ (s0 - 439855772533)) (hG : gI M) : (HP 142 (22 : Int) (s0) M ∧ True) := by
  exact ⟨Eq.mpr hp_142 (fun k h1 h2 => if e : k = 21 then (by subst e; exact qwn_v 439855772532 (by decide) (by omega)) else Eq.mp hp_142 m0 k h1 (by omega)), trivial⟩

-- wk21
theorem cr_413 (M : pM) (s0 : Int) (b0 : (-9223372036854775808) ≤ s0 ∧ s0 ≤ 9223372036854775807) (f0 : 0 ≤ ((-1) * s0 + 439855772532)) (f1 : 0 ≤ (s0 - 439855772532)) (hG : gI M) : (HP 140 (21 : Int) (s0) M ∧ True) := by
  exact ⟨Eq.mpr hp_140 ⟨21, by decide, by decide, by rw [show qwn 21 = 439855772532 by decide]; omega⟩, trivial⟩

-- nk23_0
theorem cr_414 (M : pM) (s0 : Int) (b0 : (-9223372036854775808) ≤ s0 ∧ s0 ≤ 9223372036854775807) (m0 : HP 142 (22 : Int) (s0) M) (f0 : 0 ≤ ((-1) * s0 + 512735603826)) (hG : gI M) : (HP 142 (23 : Int) (s0) M ∧ True) := by
  exact ⟨Eq.mpr hp_142 (fun k h1 h2 => if e : k = 22 then (by subst e; exact qwn_v 512735603827 (by decide) (by omega)) else Eq.mp hp_142 m0 k h1 (by omega)), trivial⟩

-- nk23_1
theorem cr_415 (M : pM) (s0 : Int) (b0 : (-9223372036854775808) ≤ s0 ∧ s0 ≤ 9223372036854775807) (m0 : HP 142 (22 : Int) (s0) M) (f0 : 0 ≤ (s0 - 512735603828)) (hG : gI M) : (HP 142 (23 : Int) (s0) M ∧ True) := by
  exact ⟨Eq.mpr hp_142 (fun k h1 h2 => if e : k = 22 then (by subst e; exact qwn_v 512735603827 (by decide) (by omega)) else Eq.mp hp_142 m0 k h1 (by omega)), trivial⟩

-- wk22
theorem cr_416 (M : pM) (s0 : Int) (b0 : (-9223372036854775808) ≤ s0 ∧ s0 ≤ 9223372036854775807) (f0 : 0 ≤ ((-1) * s0 + 512735603827)) (f1 : 0 ≤ (s0 - 512735603827)) (hG : gI M) : (HP 140 (22 : Int) (s0) M ∧ True) := by
  exact ⟨Eq.mpr hp_140 ⟨22, by decide, by decide, by rw [show qwn 22 = 512735603827 by decide]; omega⟩, trivial⟩

-- nk24_0
theorem cr_417 (M : pM) (s0 : Int) (b0 : (-9223372036854775808) ≤ s0 ∧ s0 ≤ 9223372036854775807) (m0 : HP 142 (23 : Int) (s0) M) (f0 : 0 ≤ ((-1) * s0 + 32210697498944867)) (hG : gI M) : (HP 142 (24 : Int) (s0) M ∧ True) := by
  exact ⟨Eq.mpr hp_142 (fun k h1 h2 => if e : k = 23 then (by subst e; exact qwn_v 32210697498944868 (by decide) (by omega)) else Eq.mp hp_142 m0 k h1 (by omega)), trivial⟩

-- nk24_1
theorem cr_418 (M : pM) (s0 : Int) (b0 : (-9223372036854775808) ≤ s0 ∧ s0 ≤ 9223372036854775807) (m0 : HP 142 (23 : Int) (s0) M) (f0 : 0 ≤ (s0 - 32210697498944869)) (hG : gI M) : (HP 142 (24 : Int) (s0) M ∧ True) := by
  exact ⟨Eq.mpr hp_142 (fun k h1 h2 => if e : k = 23 then (by subst e; exact qwn_v 32210697498944868 (by decide) (by omega)) else Eq.mp hp_142 m0 k h1 (by omega)), trivial⟩

-- wk23
theorem cr_419 (M : pM) (s0 : Int) (b0 : (-9223372036854775808) ≤ s0 ∧ s0 ≤ 9223372036854775807) (f0 : 0 ≤ ((-1) * s0 + 32210697498944868)) (f1 : 0 ≤ (s0 - 32210697498944868)) (hG : gI M) : (HP 140 (23 : Int) (s0) M ∧ True) := by
  exact ⟨Eq.mpr hp_140 ⟨23, by decide, by decide, by rw [show qwn 23 = 32210697498944868 by decide]; omega⟩, trivial⟩

-- ng0
theorem cr_420 (M : pM) (s0 : Int) (b0 : 0 ≤ s0 ∧ s0 ≤ 255) (hG : gI M) : (HP 144 (0 : Int) (s0) M ∧ True) := by
  exact ⟨Eq.mpr hp_144 (fun k h1 h2 => by omega), trivial⟩

-- ng1_0
theorem cr_421 (M : pM) (s0 : Int) (b0 : 0 ≤ s0 ∧ s0 ≤ 255) (m0 : HP 144 (0 : Int) (s0) M) (f0 : 0 ≤ ((-1) * s0 + 58)) (hG : gI M) : (HP 144 (1 : Int) (s0) M ∧ True) := by
  exact ⟨Eq.mpr hp_144 (fun k h1 h2 => if e : k = 0 then (by subst e; rw [show sgs.getD 0 0 = 59 by decide]; omega) else Eq.mp hp_144 m0 k h1 (by omega)), trivial⟩

-- ng1_1
theorem cr_422 (M : pM) (s0 : Int) (b0 : 0 ≤ s0 ∧ s0 ≤ 255) (m0 : HP 144 (0 : Int) (s0) M) (f0 : 0 ≤ (s0 - 60)) (hG : gI M) : (HP 144 (1 : Int) (s0) M ∧ True) := by
  exact ⟨Eq.mpr hp_144 (fun k h1 h2 => if e : k = 0 then (by subst e; rw [show sgs.getD 0 0 = 59 by decide]; omega) else Eq.mp hp_144 m0 k h1 (by omega)), trivial⟩

-- sg0
theorem cr_423 (M : pM) (s0 : Int) (b0 : 0 ≤ s0 ∧ s0 ≤ 255) (f0 : 0 ≤ ((-1) * s0 + 59)) (f1 : 0 ≤ (s0 - 59)) (hG : gI M) : (HP 70 (s0) (0 : Int) M ∧ True) := by
  have e : s0 = 59 := by omega
  subst e
  exact ⟨Eq.mpr hp_70 (by decide), trivial⟩

-- ng2_0
theorem cr_424 (M : pM) (s0 : Int) (b0 : 0 ≤ s0 ∧ s0 ≤ 255) (m0 : HP 144 (1 : Int) (s0) M) (f0 : 0 ≤ ((-1) * s0 + 39)) (hG : gI M) : (HP 144 (2 : Int) (s0) M ∧ True) := by
  exact ⟨Eq.mpr hp_144 (fun k h1 h2 => if e : k = 1 then (by subst e; rw [show sgs.getD 1 0 = 40 by decide]; omega) else Eq.mp hp_144 m0 k h1 (by omega)), trivial⟩

-- ng2_1
theorem cr_425 (M : pM) (s0 : Int) (b0 : 0 ≤ s0 ∧ s0 ≤ 255) (m0 : HP 144 (1 : Int) (s0) M) (f0 : 0 ≤ (s0 - 41)) (hG : gI M) : (HP 144 (2 : Int) (s0) M ∧ True) := by
  exact ⟨Eq.mpr hp_144 (fun k h1 h2 => if e : k = 1 then (by subst e; rw [show sgs.getD 1 0 = 40 by decide]; omega) else Eq.mp hp_144 m0 k h1 (by omega)), trivial⟩

-- sg1
theorem cr_426 (M : pM) (s0 : Int) (b0 : 0 ≤ s0 ∧ s0 ≤ 255) (f0 : 0 ≤ ((-1) * s0 + 40)) (f1 : 0 ≤ (s0 - 40)) (hG : gI M) : (HP 70 (s0) (0 : Int) M ∧ True) := by
  have e : s0 = 40 := by omega
  subst e
  exact ⟨Eq.mpr hp_70 (by decide), trivial⟩

-- ng3_0
theorem cr_427 (M : pM) (s0 : Int) (b0 : 0 ≤ s0 ∧ s0 ≤ 255) (m0 : HP 144 (2 : Int) (s0) M) (f0 : 0 ≤ ((-1) * s0 + 40)) (hG : gI M) : (HP 144 (3 : Int) (s0) M ∧ True) := by
  exact ⟨Eq.mpr hp_144 (fun k h1 h2 => if e : k = 2 then (by subst e; rw [show sgs.getD 2 0 = 41 by decide]; omega) else Eq.mp hp_144 m0 k h1 (by omega)), trivial⟩

-- ng3_1
theorem cr_428 (M : pM) (s0 : Int) (b0 : 0 ≤ s0 ∧ s0 ≤ 255) (m0 : HP 144 (2 : Int) (s0) M) (f0 : 0 ≤ (s0 - 42)) (hG : gI M) : (HP 144 (3 : Int) (s0) M ∧ True) := by
  exact ⟨Eq.mpr hp_144 (fun k h1 h2 => if e : k = 2 then (by subst e; rw [show sgs.getD 2 0 = 41 by decide]; omega) else Eq.mp hp_144 m0 k h1 (by omega)), trivial⟩

-- sg2
theorem cr_429 (M : pM) (s0 : Int) (b0 : 0 ≤ s0 ∧ s0 ≤ 255) (f0 : 0 ≤ ((-1) * s0 + 41)) (f1 : 0 ≤ (s0 - 41)) (hG : gI M) : (HP 70 (s0) (0 : Int) M ∧ True) := by
  have e : s0 = 41 := by omega
  subst e
  exact ⟨Eq.mpr hp_70 (by decide), trivial⟩

-- ng4_0
theorem cr_430 (M : pM) (s0 : Int) (b0 : 0 ≤ s0 ∧ s0 ≤ 255) (m0 : HP 144 (3 : Int) (s0) M) (f0 : 0 ≤ ((-1) * s0 + 59)) (hG : gI M) : (HP 144 (4 : Int) (s0) M ∧ True) := by
  exact ⟨Eq.mpr hp_144 (fun k h1 h2 => if e : k = 3 then (by subst e; rw [show sgs.getD 3 0 = 60 by decide]; omega) else Eq.mp hp_144 m0 k h1 (by omega)), trivial⟩

-- ng4_1
theorem cr_431 (M : pM) (s0 : Int) (b0 : 0 ≤ s0 ∧ s0 ≤ 255) (m0 : HP 144 (3 : Int) (s0) M) (f0 : 0 ≤ (s0 - 61)) (hG : gI M) : (HP 144 (4 : Int) (s0) M ∧ True) := by
  exact ⟨Eq.mpr hp_144 (fun k h1 h2 => if e : k = 3 then (by subst e; rw [show sgs.getD 3 0 = 60 by decide]; omega) else Eq.mp hp_144 m0 k h1 (by omega)), trivial⟩

-- sg3
theorem cr_432 (M : pM) (s0 : Int) (b0 : 0 ≤ s0 ∧ s0 ≤ 255) (f0 : 0 ≤ ((-1) * s0 + 60)) (f1 : 0 ≤ (s0 - 60)) (hG : gI M) : (HP 70 (s0) (0 : Int) M ∧ True) := by
  have e : s0 = 60 := by omega
  subst e
  exact ⟨Eq.mpr hp_70 (by decide), trivial⟩

-- ng5_0
theorem cr_433 (M : pM) (s0 : Int) (b0 : 0 ≤ s0 ∧ s0 ≤ 255) (m0 : HP 144 (4 : Int) (s0) M) (f0 : 0 ≤ ((-1) * s0 + 61)) (hG : gI M) : (HP 144 (5 : Int) (s0) M ∧ True) := by
  exact ⟨Eq.mpr hp_144 (fun k h1 h2 => if e : k = 4 then (by subst e; rw [show sgs.getD 4 0 = 62 by decide]; omega) else Eq.mp hp_144 m0 k h1 (by omega)), trivial⟩

-- ng5_1
theorem cr_434 (M : pM) (s0 : Int) (b0 : 0 ≤ s0 ∧ s0 ≤ 255) (m0 : HP 144 (4 : Int) (s0) M) (f0 : 0 ≤ (s0 - 63)) (hG : gI M) : (HP 144 (5 : Int) (s0) M ∧ True) := by
  exact ⟨Eq.mpr hp_144 (fun k h1 h2 => if e : k = 4 then (by subst e; rw [show sgs.getD 4 0 = 62 by decide]; omega) else Eq.mp hp_144 m0 k h1 (by omega)), trivial⟩

-- sg4
theorem cr_435 (M : pM) (s0 : Int) (b0 : 0 ≤ s0 ∧ s0 ≤ 255) (f0 : 0 ≤ ((-1) * s0 + 62)) (f1 : 0 ≤ (s0 - 62)) (hG : gI M) : (HP 70 (s0) (0 : Int) M ∧ True) := by
  have e : s0 = 62 := by omega
  subst e
  exact ⟨Eq.mpr hp_70 (by decide), trivial⟩

-- ng6_0
theorem cr_436 (M : pM) (s0 : Int) (b0 : 0 ≤ s0 ∧ s0 ≤ 255) (m0 : HP 144 (5 : Int) (s0) M) (f0 : 0 ≤ ((-1) * s0 + 60)) (hG : gI M) : (HP 144 (6 : Int) (s0) M ∧ True) := by
  exact ⟨Eq.mpr hp_144 (fun k h1 h2 => if e : k = 5 then (by subst e; rw [show sgs.getD 5 0 = 61 by decide]; omega) else Eq.mp hp_144 m0 k h1 (by omega)), trivial⟩

-- ng6_1
theorem cr_437 (M : pM) (s0 : Int) (b0 : 0 ≤ s0 ∧ s0 ≤ 255) (m0 : HP 144 (5 : Int) (s0) M) (f0 : 0 ≤ (s0 - 62)) (hG : gI M) : (HP 144 (6 : Int) (s0) M ∧ True) := by
  exact ⟨Eq.mpr hp_144 (fun k h1 h2 => if e : k = 5 then (by subst e; rw [show sgs.getD 5 0 = 61 by decide]; omega) else Eq.mp hp_144 m0 k h1 (by omega)), trivial⟩

-- sg5
theorem cr_438 (M : pM) (s0 : Int) (b0 : 0 ≤ s0 ∧ s0 ≤ 255) (f0 : 0 ≤ ((-1) * s0 + 61)) (f1 : 0 ≤ (s0 - 61)) (hG : gI M) : (HP 70 (s0) (0 : Int) M ∧ True) := by
  have e : s0 = 61 := by omega
  subst e
  exact ⟨Eq.mpr hp_70 (by decide), trivial⟩

-- ng7_0
theorem cr_439 (M : pM) (s0 : Int) (b0 : 0 ≤ s0 ∧ s0 ≤ 255) (m0 : HP 144 (6 : Int) (s0) M) (f0 : 0 ≤ ((-1) * s0 + 42)) (hG : gI M) : (HP 144 (7 : Int) (s0) M ∧ True) := by
  exact ⟨Eq.mpr hp_144 (fun k h1 h2 => if e : k = 6 then (by subst e; rw [show sgs.getD 6 0 = 43 by decide]; omega) else Eq.mp hp_144 m0 k h1 (by omega)), trivial⟩

-- ng7_1
theorem cr_440 (M : pM) (s0 : Int) (b0 : 0 ≤ s0 ∧ s0 ≤ 255) (m0 : HP 144 (6 : Int) (s0) M) (f0 : 0 ≤ (s0 - 44)) (hG : gI M) : (HP 144 (7 : Int) (s0) M ∧ True) := by
  exact ⟨Eq.mpr hp_144 (fun k h1 h2 => if e : k = 6 then (by subst e; rw [show sgs.getD 6 0 = 43 by decide]; omega) else Eq.mp hp_144 m0 k h1 (by omega)), trivial⟩

-- sg6
theorem cr_441 (M : pM) (s0 : Int) (b0 : 0 ≤ s0 ∧ s0 ≤ 255) (f0 : 0 ≤ ((-1) * s0 + 43)) (f1 : 0 ≤ (s0 - 43)) (hG : gI M) : (HP 70 (s0) (0 : Int) M ∧ True) := by
  have e : s0 = 43 := by omega
  subst e
  exact ⟨Eq.mpr hp_70 (by decide), trivial⟩

-- ng8_0
theorem cr_442 (M : pM) (s0 : Int) (b0 : 0 ≤ s0 ∧ s0 ≤ 255) (m0 : HP 144 (7 : Int) (s0) M) (f0 : 0 ≤ ((-1) * s0 + 44)) (hG : gI M) : (HP 144 (8 : Int) (s0) M ∧ True) := by
  exact ⟨Eq.mpr hp_144 (fun k h1 h2 => if e : k = 7 then (by subst e; rw [show sgs.getD 7 0 = 45 by decide]; omega) else Eq.mp hp_144 m0 k h1 (by omega)), trivial⟩

-- ng8_1
theorem cr_443 (M : pM) (s0 : Int) (b0 : 0 ≤ s0 ∧ s0 ≤ 255) (m0 : HP 144 (7 : Int) (s0) M) (f0 : 0 ≤ (s0 - 46)) (hG : gI M) : (HP 144 (8 : Int) (s0) M ∧ True) := by
  exact ⟨Eq.mpr hp_144 (fun k h1 h2 => if e : k = 7 then (by subst e; rw [show sgs.getD 7 0 = 45 by decide]; omega) else Eq.mp hp_144 m0 k h1 (by omega)), trivial⟩

-- sg7
theorem cr_444 (M : pM) (s0 : Int) (b0 : 0 ≤ s0 ∧ s0 ≤ 255) (f0 : 0 ≤ ((-1) * s0 + 45)) (f1 : 0 ≤ (s0 - 45)) (hG : gI M) : (HP 70 (s0) (0 : Int) M ∧ True) := by
  have e : s0 = 45 := by omega
  subst e
  exact ⟨Eq.mpr hp_70 (by decide), trivial⟩

-- ng9_0
theorem cr_445 (M : pM) (s0 : Int) (b0 : 0 ≤ s0 ∧ s0 ≤ 255) (m0 : HP 144 (8 : Int) (s0) M) (f0 : 0 ≤ ((-1) * s0 + 41)) (hG : gI M) : (HP 144 (9 : Int) (s0) M ∧ True) := by
  exact ⟨Eq.mpr hp_144 (fun k h1 h2 => if e : k = 8 then (by subst e; rw [show sgs.getD 8 0 = 42 by decide]; omega) else Eq.mp hp_144 m0 k h1 (by omega)), trivial⟩

-- ng9_1
theorem cr_446 (M : pM) (s0 : Int) (b0 : 0 ≤ s0 ∧ s0 ≤ 255) (m0 : HP 144 (8 : Int) (s0) M) (f0 : 0 ≤ (s0 - 43)) (hG : gI M) : (HP 144 (9 : Int) (s0) M ∧ True) := by
  exact ⟨Eq.mpr hp_144 (fun k h1 h2 => if e : k = 8 then (by subst e; rw [show sgs.getD 8 0 = 42 by decide]; omega) else Eq.mp hp_144 m0 k h1 (by omega)), trivial⟩

-- sg8
theorem cr_447 (M : pM) (s0 : Int) (b0 : 0 ≤ s0 ∧ s0 ≤ 255) (f0 : 0 ≤ ((-1) * s0 + 42)) (f1 : 0 ≤ (s0 - 42)) (hG : gI M) : (HP 70 (s0) (0 : Int) M ∧ True) := by
  have e : s0 = 42 := by omega
  subst e
  exact ⟨Eq.mpr hp_70 (by decide), trivial⟩

-- ng10_0
theorem cr_448 (M : pM) (s0 : Int) (b0 : 0 ≤ s0 ∧ s0 ≤ 255) (m0 : HP 144 (9 : Int) (s0) M) (f0 : 0 ≤ ((-1) * s0 + 46)) (hG : gI M) : (HP 144 (10 : Int) (s0) M ∧ True) := by
  exact ⟨Eq.mpr hp_144 (fun k h1 h2 => if e : k = 9 then (by subst e; rw [show sgs.getD 9 0 = 47 by decide]; omega) else Eq.mp hp_144 m0 k h1 (by omega)), trivial⟩

-- ng10_1
theorem cr_449 (M : pM) (s0 : Int) (b0 : 0 ≤ s0 ∧ s0 ≤ 255) (m0 : HP 144 (9 : Int) (s0) M) (f0 : 0 ≤ (s0 - 48)) (hG : gI M) : (HP 144 (10 : Int) (s0) M ∧ True) := by
  exact ⟨Eq.mpr hp_144 (fun k h1 h2 => if e : k = 9 then (by subst e; rw [show sgs.getD 9 0 = 47 by decide]; omega) else Eq.mp hp_144 m0 k h1 (by omega)), trivial⟩

-- sg9
theorem cr_450 (M : pM) (s0 : Int) (b0 : 0 ≤ s0 ∧ s0 ≤ 255) (f0 : 0 ≤ ((-1) * s0 + 47)) (f1 : 0 ≤ (s0 - 47)) (hG : gI M) : (HP 70 (s0) (0 : Int) M ∧ True) := by
  have e : s0 = 47 := by omega
  subst e
  exact ⟨Eq.mpr hp_70 (by decide), trivial⟩

-- qk0
theorem cr_451 (M : pM) (s0 : Int) (b0 : 0 ≤ s0 ∧ s0 ≤ 1900) (hG : gI M) : (HP 143 (2049 * s0) (0 : Int) M ∧ True) := by
  exact ⟨Eq.mpr hp_143 ⟨s0.toNat, 0, by omega, by omega, rfl, fun i hi => by omega⟩, trivial⟩

-- qkn
theorem cr_452 (M : pM) (s0 s1 s2 s3 s4 s5 : Int) (b0 : 0 ≤ s0 ∧ s0 ≤ 1900) (b1 : 0 ≤ s1 ∧ s1 ≤ 1900) (b2 : 0 ≤ s2 ∧ s2 ≤ 9223372036854775807) (b3 : 97 ≤ s3 ∧ s3 ≤ 122) (b4 : (-9223372036854775808) ≤ s4 ∧ s4 ≤ 9223372036854775807) (b5 : (-9223372036854775808) ≤ s5 ∧ s5 ≤ 9223372036854775807) (m0 : HP 143 (2048 * s0 + s1) (s2) M) (m1 : (0 ≤ (s1) ∧ M 1 (s1).toNat = (s3))) (m2 : HP 116 (4294967296 * s2 + 8) (s4) M) (m3 : HP 111 (s3 + 18446744073709551616 * s4) (s5) M) (f0 : 0 ≤ ((-1) * s0 + s1)) (f1 : 0 ≤ (s0 + (-1) * s1 + 7)) (hG : gI M) : (HP 143 (2048 * s0 + s1 + 1) (s5) M ∧ 0 ≤ (s5) ∧ True) := by
  obtain ⟨p1, p2, p3⟩ := pk_o (s := s0.toNat) (e := s1.toNat) (Eq.mp hp_143 m0) ⟨by omega, by omega, by omega⟩
  have hr := rd1 m1 (by omega)
  have p4 : ∀ i, i < s1.toNat - s0.toNat + 1 → 97 ≤ tm M 1 (s0.toNat + i) ∧ tm M 1 (s0.toNat + i) ≤ 122 := by
    intro i hi
    by_cases e : i = s1.toNat - s0.toNat
    · rw [show s0.toNat + i = s1.toNat by omega, hr]; omega
    · exact p3 i (by omega)
  have hb := pk_bd (m := 256) (a := 0) (hi := 122) (by decide) (by decide) (N := tm M) (s := s0.toNat) (k := s1.toNat - s0.toNat) (fun i hi => by have := p3 i hi; omega)
  have hb2 := pk_b2 (N := tm M) (s := s0.toNat) (k := s1.toNat - s0.toNat) (fun i hi => by have := p3 i hi; omega)
  have hp : (256 : Int) ^ (s1.toNat - s0.toNat) ≤ 72057594037927936 := by
    have : s1.toNat - s0.toNat ≤ 7 := by omega
    have h8 : ∀ k, k ≤ 7 → (256 : Int) ^ k ≤ 72057594037927936 := by decide
    exact h8 _ this
  have e1 := n_lshl (a := s2) (b := 8) m2 (by omega) (by unfold r32; omega)
  have e2 := n_lor (a := s4) (b := s3) m3 (by omega) (by unfold r64; omega)
  rw [l64_shl8 (by omega) (by omega)] at e1
  rw [e1, l64_or (by omega) (by omega) (by omega) (by omega)] at e2
  refine ⟨Eq.mpr hp_143 ⟨s0.toNat, s1.toNat - s0.toNat + 1, by omega, by omega, ?_, p4⟩, by omega, trivial⟩
  show s5 = 256 * pkd 256 0 (tm M) s0.toNat (s1.toNat - s0.toNat) + (tm M 1 (s0.toNat + (s1.toNat - s0.toNat)) - 0)
  rw [← p2, show s0.toNat + (s1.toNat - s0.toNat) = s1.toNat by omega, hr]
  omega

-- qkx
theorem cr_453 (M : pM) (s0 s1 s2 : Int) (b0 : 0 ≤ s0 ∧ s0 ≤ 3893100) (b1 : 0 ≤ s1 ∧ s1 ≤ 3893100) (b2 : 0 ≤ s2 ∧ s2 ≤ 9223372036854775807) (m0 : HP 143 (s0) (s2) M) (f0 : 0 ≤ ((-1) * s0 + s1)) (f1 : 0 ≤ (s0 + (-1) * s1)) (hG : gI M) : (HP 143 (s1) (s2) M ∧ True) := by
  have e : s0 = s1 := by omega
  subst e
  exact ⟨m0, trivial⟩

-- tkL2
theorem cr_454 (M : pM) (s0 s1 s2 s3 : Int) (b0 : 0 ≤ s0 ∧ s0 ≤ 1900) (b1 : 0 ≤ s1 ∧ s1 ≤ 1900) (b2 : 0 ≤ s2 ∧ s2 ≤ 1900) (b3 : 0 ≤ s3 ∧ s3 ≤ 1900) (m0 : (0 ≤ (1 : Int) ∧ M 2 (1 : Int).toNat = (s2))) (m1 : HP 44 (s0) (s1) M) (m2 : HP 44 (s1 + 2048) (s3) M) (f0 : 0 ≤ ((-1) * s1 + s2 - 1)) (f1 : 0 ≤ ((-1) * s1 + s3 - 9)) (hG : gI M) : (HP 45 (s0) (s1) M ∧ HP 46 (s0) (s3) M ∧ HP 47 (s0) (-1 : Int) M ∧ True) := by
  have hn := tn_o m0 b2
  have e0 := ru_o (P := 0) (p := s0.toNat) m1 ⟨by omega, by decide, by omega⟩
  have e1 := ru_o (P := 1) (p := s1.toNat) m2 ⟨by omega, by decide, by omega⟩
  exact tk_fin (tk_long (p := s0.toNat) (s := s1.toNat) (e := s3.toNat) (by omega) (by omega) (by omega) (by omega)) (by omega) (by omega) (by omega) (by omega)

-- tkK
theorem cr_455 (M : pM) (s0 s1 s2 s3 s4 s5 : Int) (b0 : 0 ≤ s0 ∧ s0 ≤ 1900) (b1 : 0 ≤ s1 ∧ s1 ≤ 1900) (b2 : 0 ≤ s2 ∧ s2 ≤ 1900) (b3 : 0 ≤ s3 ∧ s3 ≤ 1900) (b4 : 0 ≤ s4 ∧ s4 ≤ 9223372036854775807) (b5 : 0 ≤ s5 ∧ s5 ≤ 23) (m0 : (0 ≤ (1 : Int) ∧ M 2 (1 : Int).toNat = (s2))) (m1 : HP 44 (s0) (s1) M) (m2 : HP 44 (s1 + 2048) (s3) M) (m3 : HP 143 (2048 * s1 + s3) (s4) M) (m4 : HP 140 (s5) (s4) M) (f0 : 0 ≤ ((-1) * s1 + s2 - 1)) (f1 : 0 ≤ ((-1) * s1 + s3 - 1)) (f2 : 0 ≤ (s1 + (-1) * s3 + 8)) (hG : gI M) : (HP 45 (s0) (s1) M ∧ HP 46 (s0) (s3) M ∧ HP 47 (s0) (s5 + 262144) M ∧ True) := by
  have hn := tn_o m0 b2
  have e0 := ru_o (P := 0) (p := s0.toNat) m1 ⟨by omega, by decide, by omega⟩
  have e1 := ru_o (P := 1) (p := s1.toNat) m2 ⟨by omega, by decide, by omega⟩
  obtain ⟨p1, p2, p3⟩ := pk_o (s := s1.toNat) (e := s3.toNat) (Eq.mp hp_143 m3) ⟨by omega, by omega, by omega⟩
  obtain ⟨k, w1, w2, w3⟩ := Eq.mp hp_140 m4
  have w := qk_wid (N := tm M) (s := s1.toNat) (e := s3.toNat) w1 p3 (by omega)
  rw [wid_ag agtm (by omega) (by omega)] at w
  exact tk_fin (tk_word (p := s0.toNat) (s := s1.toNat) (e := s3.toNat) (by omega) (by omega) (by omega) (by omega) (by omega)) (by omega) (by omega) (by omega) (by omega)

-- tkA
theorem cr_456 (M : pM) (s0 s1 s2 s3 s4 : Int) (b0 : 0 ≤ s0 ∧ s0 ≤ 1900) (b1 : 0 ≤ s1 ∧ s1 ≤ 1900) (b2 : 0 ≤ s2 ∧ s2 ≤ 1900) (b3 : 0 ≤ s3 ∧ s3 ≤ 1900) (b4 : 0 ≤ s4 ∧ s4 ≤ 9223372036854775807) (m0 : (0 ≤ (1 : Int) ∧ M 2 (1 : Int).toNat = (s2))) (m1 : HP 44 (s0) (s1) M) (m2 : HP 44 (s1 + 2048) (s3) M) (m3 : HP 143 (2048 * s1 + s3) (s4) M) (m4 : HP 142 (24 : Int) (s4) M) (f0 : 0 ≤ ((-1) * s1 + s2 - 1)) (f1 : 0 ≤ ((-1) * s1 + s3 - 1)) (f2 : 0 ≤ (s1 + (-1) * s3 + 8)) (hG : gI M) : (HP 45 (s0) (s1) M ∧ HP 46 (s0) (s3) M ∧ HP 47 (s0) (262143 : Int) M ∧ True) := by
  have hn := tn_o m0 b2
  have e0 := ru_o (P := 0) (p := s0.toNat) m1 ⟨by omega, by decide, by omega⟩
  have e1 := ru_o (P := 1) (p := s1.toNat) m2 ⟨by omega, by decide, by omega⟩
  obtain ⟨p1, p2, p3⟩ := pk_o (s := s1.toNat) (e := s3.toNat) (Eq.mp hp_143 m3) ⟨by omega, by omega, by omega⟩
  have w := qk_nwid (N := tm M) (s := s1.toNat) (e := s3.toNat) (fun k hk => by rw [← p2]; exact Eq.mp hp_142 m4 k hk (by omega))
  rw [wid_ag agtm (by omega) (by omega)] at w
  exact tk_fin (tk_word (p := s0.toNat) (s := s1.toNat) (e := s3.toNat) (by omega) (by omega) (by omega) (by omega) (by omega)) (by omega) (by omega) (by omega) (by omega)

-- tkO2
theorem cr_457 (M : pM) (s0 s1 s2 s3 s4 : Int) (b0 : 0 ≤ s0 ∧ s0 ≤ 1900) (b1 : 0 ≤ s1 ∧ s1 ≤ 1900) (b2 : 0 ≤ s2 ∧ s2 ≤ 1900) (b3 : 0 ≤ s3 ∧ s3 ≤ 1900) (b4 : 97 ≤ s4 ∧ s4 ≤ 122) (m0 : (0 ≤ (1 : Int) ∧ M 2 (1 : Int).toNat = (s2))) (m1 : HP 44 (s0) (s1) M) (m2 : HP 44 (s1 + 2048) (s1) M) (m3 : HP 44 (s1 + 4096) (s3) M) (m4 : (0 ≤ (s3) ∧ M 1 (s3).toNat = (s4))) (f0 : 0 ≤ ((-1) * s1 + s2 - 1)) (f1 : 0 ≤ ((-1) * s1 + s3 - 1)) (f2 : 0 ≤ (s2 + (-1) * s3 - 1)) (hG : gI M) : (HP 45 (s0) (s1) M ∧ HP 46 (s0) (s3) M ∧ HP 47 (s0) (-1 : Int) M ∧ True) := by
  have hn := tn_o m0 b2
  have e0 := ru_o (P := 0) (p := s0.toNat) m1 ⟨by omega, by decide, by omega⟩
  have e1 := ru_o (P := 1) (p := s1.toNat) m2 ⟨by omega, by decide, by omega⟩
  have e2 := ru_o (P := 2) (p := s1.toNat) m3 ⟨by omega, by decide, by omega⟩
  have e3 := ru_lt (M := M) (P := 1) (p := s3.toNat) (by omega) (by rw [m4.2]; exact decide_eq_true (by omega))
  exact tk_fin (tk_bad (p := s0.toNat) (s := s1.toNat) (e := s3.toNat) (by omega) (by omega) (by omega) (by omega) (by omega) (fun h => by omega)) (by omega) (by omega) (by omega) (by omega)

-- tkT2
theorem cr_458 (M : pM) (s0 s1 s2 s3 : Int) (b0 : 0 ≤ s0 ∧ s0 ≤ 1900) (b1 : 0 ≤ s1 ∧ s1 ≤ 1900) (b2 : 0 ≤ s2 ∧ s2 ≤ 1900) (b3 : 0 ≤ s3 ∧ s3 ≤ 255) (m0 : (0 ≤ (1 : Int) ∧ M 2 (1 : Int).toNat = (s2))) (m1 : HP 44 (s0) (s1) M) (m2 : HP 44 (s1 + 2048) (s1) M) (m3 : HP 44 (s1 + 4096) (s1) M) (m4 : (0 ≤ (s1) ∧ M 1 (s1).toNat = (s3))) (m5 : HP 144 (10 : Int) (s3) M) (f0 : 0 ≤ ((-1) * s1 + s2 - 1)) (hG : gI M) : (HP 45 (s0) (s1) M ∧ HP 46 (s0) (s1 + 1) M ∧ HP 47 (s0) (s3) M ∧ True) := by
  have hn := tn_o m0 b2
  have e0 := ru_o (P := 0) (p := s0.toNat) m1 ⟨by omega, by decide, by omega⟩
  have e1 := ru_o (P := 1) (p := s1.toNat) m2 ⟨by omega, by decide, by omega⟩
  have e2 := ru_o (P := 2) (p := s1.toNat) m3 ⟨by omega, by decide, by omega⟩
  have q := tk_sign (M := M) (p := s0.toNat) (s := s1.toNat) (by omega) (by omega) (by omega) (by omega)
  rw [m4.2] at q
  rw [if_neg (ng_no m5)] at q
  exact tk_fin q (by omega) (by omega) (by omega) (by omega)

-- rti0
theorem cr_459 (M : pM) (s0 s1 s2 : Int) (b0 : 0 ≤ s0 ∧ s0 ≤ 1900) (b1 : 0 ≤ s1 ∧ s1 ≤ 1900) (b2 : 0 ≤ s2 ∧ s2 ≤ 1900) (m0 : (0 ≤ (6 : Int) ∧ M 61 (6 : Int).toNat = (s1))) (m1 : (0 ≤ (7 : Int) ∧ M 61 (7 : Int).toNat = (s2))) (m2 : HP 45 (s0) (s1) M) (m3 : HP 46 (s0) (s2) M) (m4 : (0 ≤ (8 : Int) ∧ M 61 (8 : Int).toNat = (0 : Int))) (m5 : HP 47 (s0) (131071 : Int) M) (hG : gI M) : (HP 49 (s0) (0 : Int) M ∧ True) := by
  have h1 := (Eq.mp hp_45 m2)
  have h2 := (Eq.mp hp_46 m3).2
  have h3 := (Eq.mp hp_47 m5).2
  have h6 : M 61 6 = s1 := m0.2
  have h7 : M 61 7 = s2 := m1.2
  have h8 : M 61 8 = 0 := m4.2
  exact ⟨Eq.mpr hp_49 ⟨h1.1, by rw [h6]; exact h1.2, by rw [h7]; exact h2, Or.inl ⟨h8, by omega⟩⟩, trivial⟩

-- rti1
theorem cr_460 (M : pM) (s0 s1 s2 s3 : Int) (b0 : 0 ≤ s0 ∧ s0 ≤ 1900) (b1 : 0 ≤ s1 ∧ s1 ≤ 1900) (b2 : 0 ≤ s2 ∧ s2 ≤ 1900) (b3 : (-1) ≤ s3 ∧ s3 ≤ 255) (m0 : (0 ≤ (6 : Int) ∧ M 61 (6 : Int).toNat = (s1))) (m1 : (0 ≤ (7 : Int) ∧ M 61 (7 : Int).toNat = (s2))) (m2 : HP 45 (s0) (s1) M) (m3 : HP 46 (s0) (s2) M) (m4 : (0 ≤ (8 : Int) ∧ M 61 (8 : Int).toNat = (1 : Int))) (m5 : HP 47 (s0) (s3) M) (hG : gI M) : (HP 49 (s0) (0 : Int) M ∧ True) := by
  have h1 := (Eq.mp hp_45 m2)
  have h2 := (Eq.mp hp_46 m3).2
  have h3 := (Eq.mp hp_47 m5).2
  have h6 : M 61 6 = s1 := m0.2
  have h7 : M 61 7 = s2 := m1.2
  have h8 : M 61 8 = 1 := m4.2
  exact ⟨Eq.mpr hp_49 ⟨h1.1, by rw [h6]; exact h1.2, by rw [h7]; exact h2, Or.inr (Or.inl ⟨h8, by omega, by omega⟩)⟩, trivial⟩

-- rti2
theorem cr_461 (M : pM) (s0 s1 s2 s3 : Int) (b0 : 0 ≤ s0 ∧ s0 ≤ 1900) (b1 : 0 ≤ s1 ∧ s1 ≤ 1900) (b2 : 0 ≤ s2 ∧ s2 ≤ 1900) (b3 : 0 ≤ s3 ∧ s3 ≤ 9223372036854775807) (m0 : (0 ≤ (6 : Int) ∧ M 61 (6 : Int).toNat = (s1))) (m1 : (0 ≤ (7 : Int) ∧ M 61 (7 : Int).toNat = (s2))) (m2 : HP 45 (s0) (s1) M) (m3 : HP 46 (s0) (s2) M) (m4 : (0 ≤ (8 : Int) ∧ M 61 (8 : Int).toNat = (2 : Int))) (m5 : HP 47 (s0) (262143 : Int) M) (m6 : (0 ≤ (10 : Int) ∧ M 61 (10 : Int).toNat = (s3))) (m7 : HP 143 (2048 * s1 + s2) (s3) M) (hG : gI M) : (HP 49 (s0) (0 : Int) M ∧ True) := by
  have h1 := (Eq.mp hp_45 m2)
  have h2 := (Eq.mp hp_46 m3).2
  have h3 := (Eq.mp hp_47 m5).2
  have h6 : M 61 6 = s1 := m0.2
  have h7 : M 61 7 = s2 := m1.2
  have h8 : M 61 8 = 2 := m4.2
  exact ⟨Eq.mpr hp_49 ⟨h1.1, by rw [h6]; exact h1.2, by rw [h7]; exact h2, Or.inr (Or.inr (Or.inl ⟨h8, by omega, by have h9 : M 61 10 = s3 := m6.2; rw [h9, ← h1.2, ← h2]; exact Eq.mp hp_143 m7⟩))⟩, trivial⟩

-- rti3
theorem cr_462 (M : pM) (s0 s1 s2 s3 s4 : Int) (b0 : 0 ≤ s0 ∧ s0 ≤ 1900) (b1 : 0 ≤ s1 ∧ s1 ≤ 1900) (b2 : 0 ≤ s2 ∧ s2 ≤ 1900) (b3 : 0 ≤ s3 ∧ s3 ≤ 9223372036854775807) (b4 : 0 ≤ s4 ∧ s4 ≤ 23) (m0 : (0 ≤ (6 : Int) ∧ M 61 (6 : Int).toNat = (s1))) (m1 : (0 ≤ (7 : Int) ∧ M 61 (7 : Int).toNat = (s2))) (m2 : HP 45 (s0) (s1) M) (m3 : HP 46 (s0) (s2) M) (m4 : (0 ≤ (8 : Int) ∧ M 61 (8 : Int).toNat = (3 : Int))) (m5 : HP 47 (s0) (s4 + 262144) M) (m6 : (0 ≤ (10 : Int) ∧ M 61 (10 : Int).toNat = (s3))) (m7 : HP 140 (s4) (s3) M) (hG : gI M) : (HP 49 (s0) (0 : Int) M ∧ True) := by
  have h1 := (Eq.mp hp_45 m2)
  have h2 := (Eq.mp hp_46 m3).2
  have h3 := (Eq.mp hp_47 m5).2
  have h6 : M 61 6 = s1 := m0.2
  have h7 : M 61 7 = s2 := m1.2
  have h8 : M 61 8 = 3 := m4.2
  exact ⟨Eq.mpr hp_49 ⟨h1.1, by rw [h6]; exact h1.2, by rw [h7]; exact h2, Or.inr (Or.inr (Or.inr (Or.inl ⟨h8, by obtain ⟨k, w1, w2, w3⟩ := Eq.mp hp_140 m7; have h9 : M 61 10 = s3 := m6.2; exact ⟨k, w1, by omega, by omega⟩⟩)))⟩, trivial⟩

-- rti4
theorem cr_463 (M : pM) (s0 s1 s2 s3 : Int) (b0 : 0 ≤ s0 ∧ s0 ≤ 1900) (b1 : 0 ≤ s1 ∧ s1 ≤ 1900) (b2 : 0 ≤ s2 ∧ s2 ≤ 1900) (b3 : 0 ≤ s3 ∧ s3 ≤ 9999) (m0 : (0 ≤ (6 : Int) ∧ M 61 (6 : Int).toNat = (s1))) (m1 : (0 ≤ (7 : Int) ∧ M 61 (7 : Int).toNat = (s2))) (m2 : HP 45 (s0) (s1) M) (m3 : HP 46 (s0) (s2) M) (m4 : (0 ≤ (8 : Int) ∧ M 61 (8 : Int).toNat = (4 : Int))) (m5 : HP 47 (s0) (s3 + 393216) M) (m6 : (0 ≤ (9 : Int) ∧ M 61 (9 : Int).toNat = (s3))) (hG : gI M) : (HP 49 (s0) (0 : Int) M ∧ True) := by
  have h1 := (Eq.mp hp_45 m2)
  have h2 := (Eq.mp hp_46 m3).2
  have h3 := (Eq.mp hp_47 m5).2
  have h6 : M 61 6 = s1 := m0.2
  have h7 : M 61 7 = s2 := m1.2
  have h8 : M 61 8 = 4 := m4.2
  exact ⟨Eq.mpr hp_49 ⟨h1.1, by rw [h6]; exact h1.2, by rw [h7]; exact h2, Or.inr (Or.inr (Or.inr (Or.inr (Or.inl ⟨h8, by have h9 : M 61 9 = s3 := m6.2; omega⟩))))⟩, trivial⟩

-- rti5
theorem cr_464 (M : pM) (s0 s1 s2 s3 : Int) (b0 : 0 ≤ s0 ∧ s0 ≤ 1900) (b1 : 0 ≤ s1 ∧ s1 ≤ 1900) (b2 : 0 ≤ s2 ∧ s2 ≤ 1900) (b3 : 0 ≤ s3 ∧ s3 ≤ 255) (m0 : (0 ≤ (6 : Int) ∧ M 61 (6 : Int).toNat = (s1))) (m1 : (0 ≤ (7 : Int) ∧ M 61 (7 : Int).toNat = (s2))) (m2 : HP 45 (s0) (s1) M) (m3 : HP 46 (s0) (s2) M) (m4 : (0 ≤ (8 : Int) ∧ M 61 (8 : Int).toNat = (5 : Int))) (m5 : HP 47 (s0) (s3 + 524288) M) (hG : gI M) : (HP 49 (s0) (0 : Int) M ∧ True) := by
  have h1 := (Eq.mp hp_45 m2)
  have h2 := (Eq.mp hp_46 m3).2
  have h3 := (Eq.mp hp_47 m5).2
  have h6 : M 61 6 = s1 := m0.2
  have h7 : M 61 7 = s2 := m1.2
  have h8 : M 61 8 = 5 := m4.2
  exact ⟨Eq.mpr hp_49 ⟨h1.1, by rw [h6]; exact h1.2, by rw [h7]; exact h2, Or.inr (Or.inr (Or.inr (Or.inr (Or.inr ⟨h8, by omega, by omega⟩))))⟩, trivial⟩

-- rto
theorem cr_465 (M : pM) (s0 s1 s2 s3 s4 : Int) (b0 : 0 ≤ s0 ∧ s0 ≤ 1900) (b1 : 0 ≤ s1 ∧ s1 ≤ 1900) (b2 : 0 ≤ s2 ∧ s2 ≤ 1900) (b3 : 0 ≤ s3 ∧ s3 ≤ 5) (b4 : 0 ≤ s4 ∧ s4 ≤ 9999) (m0 : HP 49 (s0) (0 : Int) M) (m1 : (0 ≤ (6 : Int) ∧ M 61 (6 : Int).toNat = (s1))) (m2 : (0 ≤ (7 : Int) ∧ M 61 (7 : Int).toNat = (s2))) (m3 : (0 ≤ (8 : Int) ∧ M 61 (8 : Int).toNat = (s3))) (m4 : (0 ≤ (9 : Int) ∧ M 61 (9 : Int).toNat = (s4))) (hG : gI M) : (HP 45 (s0) (s1) M ∧ HP 46 (s0) (s2) M ∧ HP 47 (s0) (131071 : Int) M ∧ 0 ≤ ((-1) * s3) ∧ 0 ≤ (s3) ∧ True) ∨ (∃ t0 : Int, (-1) ≤ t0 ∧ t0 ≤ 255 ∧ HP 45 (s0) (s1) M ∧ HP 46 (s0) (s2) M ∧ HP 47 (s0) (t0) M ∧ 0 ≤ ((-1) * s3 + 1) ∧ 0 ≤ (s3 - 1) ∧ True) ∨ (∃ t0 : Int, 0 ≤ t0 ∧ t0 ≤ 9223372036854775807 ∧ HP 45 (s0) (s1) M ∧ HP 46 (s0) (s2) M ∧ HP 47 (s0) (262143 : Int) M ∧ (0 ≤ (10 : Int) ∧ M 61 (10 : Int).toNat = (t0)) ∧ HP 143 (2048 * s1 + s2) (t0) M ∧ 0 ≤ ((-1) * s3 + 2) ∧ 0 ≤ (s3 - 2) ∧ 0 ≤ ((-1) * s1 + s2 - 1) ∧ 0 ≤ (s1 + (-1) * s2 + 8) ∧ True) ∨ (∃ t0 t1 : Int, 0 ≤ t0 ∧ t0 ≤ 9223372036854775807 ∧ 0 ≤ t1 ∧ t1 ≤ 23 ∧ HP 45 (s0) (s1) M ∧ HP 46 (s0) (s2) M ∧ HP 47 (s0) (t1 + 262144) M ∧ (0 ≤ (10 : Int) ∧ M 61 (10 : Int).toNat = (t0)) ∧ HP 140 (t1) (t0) M ∧ 0 ≤ ((-1) * s3 + 3) ∧ 0 ≤ (s3 - 3) ∧ 0 ≤ ((-1) * s1 + s2 - 2) ∧ 0 ≤ (s1 + (-1) * s2 + 8) ∧ True) ∨ (HP 45 (s0) (s1) M ∧ HP 46 (s0) (s2) M ∧ HP 47 (s0) (s4 + 393216) M ∧ 0 ≤ ((-1) * s3 + 4) ∧ 0 ≤ (s3 - 4) ∧ 0 ≤ ((-1) * s1 + s2 - 1) ∧ True) ∨ (∃ t0 : Int, 33 ≤ t0 ∧ t0 ≤ 126 ∧ HP 45 (s0) (s1) M ∧ HP 46 (s0) (s2) M ∧ HP 47 (s0) (t0 + 524288) M ∧ (0 ≤ (s1) ∧ M 1 (s1).toNat = (t0)) ∧ 0 ≤ ((-1) * s3 + 5) ∧ 0 ≤ (s3 - 5) ∧ 0 ≤ (s1 + (-1) * s2 + 1) ∧ 0 ≤ ((-1) * s1 + s2 - 1) ∧ True) := by
  obtain ⟨h0, h1, h2, h3⟩ := Eq.mp hp_49 m0
  have e6 : M 61 6 = s1 := m1.2
  have e7 : M 61 7 = s2 := m2.2
  have e8 : M 61 8 = s3 := m3.2
  have e9 : M 61 9 = s4 := m4.2
  rw [e6] at h1
  rw [e7] at h2
  rw [e8, e9] at h3
  have hb := hby_M hG
  have k1 : HP 45 s0 s1 M := Eq.mpr hp_45 ⟨h0, h1⟩
  have k2 : HP 46 s0 s2 M := Eq.mpr hp_46 ⟨h0, h2⟩
  have k3 : ∀ z, z = tK M s0.toNat → HP 47 s0 z M := fun z hz => Eq.mpr hp_47 ⟨h0, hz⟩
  rcases h3 with ⟨t, h⟩ | ⟨t, h, h'⟩ | ⟨t, h, h'⟩ | ⟨t, k, hk, h, h'⟩ | ⟨t, h⟩ | ⟨t, h, h'⟩
  · exact Or.inl ⟨k1, k2, k3 _ h.symm, by omega, by omega, trivial⟩
  · exact Or.inr (Or.inl ⟨tK M s0.toNat, by omega, by omega, k1, k2, k3 _ rfl, by omega, by omega, trivial⟩)
  · have w := tk_wd hb (p := s0.toNat) (by omega) (by omega)
    have h8 := pk_o (s := s1.toNat) (e := s2.toNat) h' ⟨by omega, by omega, by omega⟩
    have h9 := pk_bd (m := 256) (a := 0) (hi := 122) (by decide) (by decide) (N := tm M) (s := s1.toNat) (k := s2.toNat - s1.toNat) (fun i hi => by have := h8.2.2 i hi; omega)
    have h10 := pk_b2 (N := tm M) (s := s1.toNat) (k := s2.toNat - s1.toNat) (fun i hi => by have := h8.2.2 i hi; omega)
    have hp : (256 : Int) ^ (s2.toNat - s1.toNat) ≤ 18446744073709551616 := by
      have : s2.toNat - s1.toNat ≤ 8 := by omega
      have h8 : ∀ k, k ≤ 8 → (256 : Int) ^ k ≤ 18446744073709551616 := by decide
      exact h8 _ this
    exact Or.inr (Or.inr (Or.inl ⟨M 61 10, by omega, by omega, k1, k2, k3 _ h.symm, ⟨by decide, rfl⟩, Eq.mpr hp_143 (by rw [h1, h2]; exact h'), by omega, by omega, by omega, by omega, trivial⟩))
  · have w := tk_wd hb (p := s0.toNat) (by omega) (by omega)
    have w2 := wid_len (N := M) (s := tS M s0.toNat) (e := tE M s0.toNat) (by omega)
    have hq : 0 ≤ qwn k ∧ qwn k ≤ 9223372036854775807 := (by decide : ∀ k, k < 24 → 0 ≤ qwn k ∧ qwn k ≤ 9223372036854775807) k hk
    exact Or.inr (Or.inr (Or.inr (Or.inl ⟨M 61 10, (k : Int), by omega, by omega, by omega, by omega, k1, k2, k3 _ (by omega), ⟨by decide, rfl⟩, Eq.mpr hp_140 ⟨k, hk, rfl, h'⟩, by omega, by omega, by omega, by omega, trivial⟩)))
  · have w := tE_gt (N := M) (p := s0.toNat) (by omega)
    exact Or.inr (Or.inr (Or.inr (Or.inr (Or.inl ⟨k1, k2, k3 _ (by omega), by omega, by omega, by omega, trivial⟩))))
  · rcases tk_cl hb s0.toNat with q | q | q | q | q | q
    · omega
    · have := wid_bd (N := M) (s := tS M s0.toNat) (e := tE M s0.toNat); omega
    · omega
    · omega
    · have hs := sgs_bd q.2.2.1
      have hc : M 1 s1.toNat = M 1 (tS M s0.toNat) := by rw [show s1.toNat = tS M s0.toNat by omega]
      exact Or.inr (Or.inr (Or.inr (Or.inr (Or.inr ⟨M 1 (tS M s0.toNat), by omega, by omega, k1, k2, k3 _ (by omega), ⟨by omega, hc⟩, by omega, by omega, by omega, by omega, trivial⟩))))
    · omega

-- wkc
theorem cr_466 (M : pM) (s0 s1 : Int) (b0 : 0 ≤ s0 ∧ s0 ≤ 23) (b1 : 0 ≤ s1 ∧ s1 ≤ 9223372036854775807) (m0 : HP 140 (s0) (s1) M) (hG : gI M) : (0 ≤ ((-1) * s0) ∧ 0 ≤ (s0) ∧ 0 ≤ ((-1) * s1 + 7499639) ∧ 0 ≤ (s1 - 7499639) ∧ True) ∨ (0 ≤ ((-1) * s0 + 1) ∧ 0 ≤ (s0 - 1) ∧ 0 ≤ ((-1) * s1 + 1818846836) ∧ 0 ≤ (s1 - 1818846836) ∧ True) ∨ (0 ≤ ((-1) * s0 + 2) ∧ 0 ≤ (s0 - 2) ∧ 0 ≤ ((-1) * s1 + 2003398244) ∧ 0 ≤ (s1 - 2003398244) ∧ True) ∨ (0 ≤ ((-1) * s0 + 3) ∧ 0 ≤ (s0 - 3) ∧ 0 ≤ ((-1) * s1 + 7630704) ∧ 0 ≤ (s1 - 7630704) ∧ True) ∨ (0 ≤ ((-1) * s0 + 4) ∧ 0 ≤ (s0 - 4) ∧ 0 ≤ ((-1) * s1 + 2002873452) ∧ 0 ≤ (s1 - 2002873452) ∧ True) ∨ (0 ≤ ((-1) * s0 + 8) ∧ 0 ≤ (s0 - 8) ∧ 0 ≤ ((-1) * s1 + 439854918756) ∧ 0 ≤ (s1 - 439854918756) ∧ True) ∨ (0 ≤ ((-1) * s0 + 9) ∧ 0 ≤ (s0 - 9) ∧ 0 ≤ ((-1) * s1 + 1919902052) ∧ 0 ≤ (s1 - 1919902052) ∧ True) ∨ (0 ≤ ((-1) * s0 + 10) ∧ 0 ≤ (s0 - 10) ∧ 0 ≤ ((-1) * s1 + 113715322316146) ∧ 0 ≤ (s1 - 113715322316146) ∧ True) ∨ (0 ≤ (s0 - 5) ∧ 0 ≤ ((-1) * s0 + 7) ∧ True) ∨ (0 ≤ (s0 - 11) ∧ True) := by
  obtain ⟨k, w1, w2, w3⟩ := Eq.mp hp_140 m0
  have hk : k = 0 ∨ k = 1 ∨ k = 2 ∨ k = 3 ∨ k = 4 ∨ k = 8 ∨ k = 9 ∨ k = 10 ∨ 5 ≤ k ∧ k ≤ 7 ∨ 11 ≤ k := by omega
  rcases hk with e | e | e | e | e | e | e | e | e | e
  · subst e
    rw [show qwn 0 = 7499639 by decide] at w3
    exact Or.inl ⟨by omega, by omega, by omega, by omega, trivial⟩
  · subst e
    rw [show qwn 1 = 1818846836 by decide] at w3
    exact Or.inr (Or.inl ⟨by omega, by omega, by omega, by omega, trivial⟩)
  · subst e
    rw [show qwn 2 = 2003398244 by decide] at w3
    exact Or.inr (Or.inr (Or.inl ⟨by omega, by omega, by omega, by omega, trivial⟩))
  · subst e
    rw [show qwn 3 = 7630704 by decide] at w3
    exact Or.inr (Or.inr (Or.inr (Or.inl ⟨by omega, by omega, by omega, by omega, trivial⟩)))
  · subst e
    rw [show qwn 4 = 2002873452 by decide] at w3
    exact Or.inr (Or.inr (Or.inr (Or.inr (Or.inl ⟨by omega, by omega, by omega, by omega, trivial⟩))))
  · subst e
    rw [show qwn 8 = 439854918756 by decide] at w3
    exact Or.inr (Or.inr (Or.inr (Or.inr (Or.inr (Or.inl ⟨by omega, by omega, by omega, by omega, trivial⟩)))))
  · subst e
    rw [show qwn 9 = 1919902052 by decide] at w3
    exact Or.inr (Or.inr (Or.inr (Or.inr (Or.inr (Or.inr (Or.inl ⟨by omega, by omega, by omega, by omega, trivial⟩))))))
  · subst e
    rw [show qwn 10 = 113715322316146 by decide] at w3
    exact Or.inr (Or.inr (Or.inr (Or.inr (Or.inr (Or.inr (Or.inr (Or.inl ⟨by omega, by omega, by omega, by omega, trivial⟩)))))))
  · exact Or.inr (Or.inr (Or.inr (Or.inr (Or.inr (Or.inr (Or.inr (Or.inr (Or.inl ⟨by omega, by omega, trivial⟩))))))))
  · exact Or.inr (Or.inr (Or.inr (Or.inr (Or.inr (Or.inr (Or.inr (Or.inr (Or.inr (⟨by omega, trivial⟩)))))))))

-- wkn0_0
theorem cr_467 (M : pM) (s0 s1 : Int) (b0 : 0 ≤ s0 ∧ s0 ≤ 23) (b1 : 0 ≤ s1 ∧ s1 ≤ 9223372036854775807) (m0 : HP 140 (s0) (s1) M) (f0 : 0 ≤ ((-1) * s1 + 7499638)) (hG : gI M) : (0 ≤ ((-1) * s0 - 1) ∧ True) ∨ (0 ≤ (s0 - 1) ∧ True) := by
  obtain ⟨k, w1, w2, w3⟩ := Eq.mp hp_140 m0
  have hk : k = 0 ∨ 0 < k := by omega
  rcases hk with e | e
  · subst e
    rw [show qwn 0 = 7499639 by decide] at w3
    omega
  · exact Or.inr ⟨by omega, trivial⟩

-- wkn0_1
theorem cr_468 (M : pM) (s0 s1 : Int) (b0 : 0 ≤ s0 ∧ s0 ≤ 23) (b1 : 0 ≤ s1 ∧ s1 ≤ 9223372036854775807) (m0 : HP 140 (s0) (s1) M) (f0 : 0 ≤ (s1 - 7499640)) (hG : gI M) : (0 ≤ ((-1) * s0 - 1) ∧ True) ∨ (0 ≤ (s0 - 1) ∧ True) := by
  obtain ⟨k, w1, w2, w3⟩ := Eq.mp hp_140 m0
  have hk : k = 0 ∨ 0 < k := by omega
  rcases hk with e | e
  · subst e
    rw [show qwn 0 = 7499639 by decide] at w3
    omega
  · exact Or.inr ⟨by omega, trivial⟩

-- wkn1_0
theorem cr_469 (M : pM) (s0 s1 : Int) (b0 : 0 ≤ s0 ∧ s0 ≤ 23) (b1 : 0 ≤ s1 ∧ s1 ≤ 9223372036854775807) (m0 : HP 140 (s0) (s1) M) (f0 : 0 ≤ ((-1) * s1 + 1818846835)) (hG : gI M) : (0 ≤ ((-1) * s0) ∧ True) ∨ (0 ≤ (s0 - 2) ∧ True) := by
  obtain ⟨k, w1, w2, w3⟩ := Eq.mp hp_140 m0
  have hk : k < 1 ∨ k = 1 ∨ 1 < k := by omega
  rcases hk with e | e | e
  · exact Or.inl ⟨by omega, trivial⟩
  · subst e
    rw [show qwn 1 = 1818846836 by decide] at w3
    omega
  · exact Or.inr ⟨by omega, trivial⟩

-- wkn1_1
theorem cr_470 (M : pM) (s0 s1 : Int) (b0 : 0 ≤ s0 ∧ s0 ≤ 23) (b1 : 0 ≤ s1 ∧ s1 ≤ 9223372036854775807) (m0 : HP 140 (s0) (s1) M) (f0 : 0 ≤ (s1 - 1818846837)) (hG : gI M) : (0 ≤ ((-1) * s0) ∧ True) ∨ (0 ≤ (s0 - 2) ∧ True) := by
  obtain ⟨k, w1, w2, w3⟩ := Eq.mp hp_140 m0
  have hk : k < 1 ∨ k = 1 ∨ 1 < k := by omega
  rcases hk with e | e | e
  · exact Or.inl ⟨by omega, trivial⟩
  · subst e
    rw [show qwn 1 = 1818846836 by decide] at w3
    omega
  · exact Or.inr ⟨by omega, trivial⟩

-- wkn2_0
theorem cr_471 (M : pM) (s0 s1 : Int) (b0 : 0 ≤ s0 ∧ s0 ≤ 23) (b1 : 0 ≤ s1 ∧ s1 ≤ 9223372036854775807) (m0 : HP 140 (s0) (s1) M) (f0 : 0 ≤ ((-1) * s1 + 2003398243)) (hG : gI M) : (0 ≤ ((-1) * s0 + 1) ∧ True) ∨ (0 ≤ (s0 - 3) ∧ True) := by
  obtain ⟨k, w1, w2, w3⟩ := Eq.mp hp_140 m0
  have hk : k < 2 ∨ k = 2 ∨ 2 < k := by omega
  rcases hk with e | e | e
  · exact Or.inl ⟨by omega, trivial⟩
  · subst e
    rw [show qwn 2 = 2003398244 by decide] at w3
    omega
  · exact Or.inr ⟨by omega, trivial⟩

-- wkn2_1
theorem cr_472 (M : pM) (s0 s1 : Int) (b0 : 0 ≤ s0 ∧ s0 ≤ 23) (b1 : 0 ≤ s1 ∧ s1 ≤ 9223372036854775807) (m0 : HP 140 (s0) (s1) M) (f0 : 0 ≤ (s1 - 2003398245)) (hG : gI M) : (0 ≤ ((-1) * s0 + 1) ∧ True) ∨ (0 ≤ (s0 - 3) ∧ True) := by
  obtain ⟨k, w1, w2, w3⟩ := Eq.mp hp_140 m0
  have hk : k < 2 ∨ k = 2 ∨ 2 < k := by omega
  rcases hk with e | e | e
  · exact Or.inl ⟨by omega, trivial⟩
  · subst e
    rw [show qwn 2 = 2003398244 by decide] at w3
    omega
  · exact Or.inr ⟨by omega, trivial⟩

-- wkn3_0
theorem cr_473 (M : pM) (s0 s1 : Int) (b0 : 0 ≤ s0 ∧ s0 ≤ 23) (b1 : 0 ≤ s1 ∧ s1 ≤ 9223372036854775807) (m0 : HP 140 (s0) (s1) M) (f0 : 0 ≤ ((-1) * s1 + 7630703)) (hG : gI M) : (0 ≤ ((-1) * s0 + 2) ∧ True) ∨ (0 ≤ (s0 - 4) ∧ True) := by
  obtain ⟨k, w1, w2, w3⟩ := Eq.mp hp_140 m0
  have hk : k < 3 ∨ k = 3 ∨ 3 < k := by omega
  rcases hk with e | e | e
  · exact Or.inl ⟨by omega, trivial⟩
  · subst e
    rw [show qwn 3 = 7630704 by decide] at w3
    omega
  · exact Or.inr ⟨by omega, trivial⟩

-- wkn3_1
theorem cr_474 (M : pM) (s0 s1 : Int) (b0 : 0 ≤ s0 ∧ s0 ≤ 23) (b1 : 0 ≤ s1 ∧ s1 ≤ 9223372036854775807) (m0 : HP 140 (s0) (s1) M) (f0 : 0 ≤ (s1 - 7630705)) (hG : gI M) : (0 ≤ ((-1) * s0 + 2) ∧ True) ∨ (0 ≤ (s0 - 4) ∧ True) := by
  obtain ⟨k, w1, w2, w3⟩ := Eq.mp hp_140 m0
  have hk : k < 3 ∨ k = 3 ∨ 3 < k := by omega
  rcases hk with e | e | e
  · exact Or.inl ⟨by omega, trivial⟩
  · subst e
    rw [show qwn 3 = 7630704 by decide] at w3
    omega
  · exact Or.inr ⟨by omega, trivial⟩

-- wkn4_0
theorem cr_475 (M : pM) (s0 s1 : Int) (b0 : 0 ≤ s0 ∧ s0 ≤ 23) (b1 : 0 ≤ s1 ∧ s1 ≤ 9223372036854775807) (m0 : HP 140 (s0) (s1) M) (f0 : 0 ≤ ((-1) * s1 + 2002873451)) (hG : gI M) : (0 ≤ ((-1) * s0 + 3) ∧ True) ∨ (0 ≤ (s0 - 5) ∧ True) := by
  obtain ⟨k, w1, w2, w3⟩ := Eq.mp hp_140 m0
  have hk : k < 4 ∨ k = 4 ∨ 4 < k := by omega
  rcases hk with e | e | e
  · exact Or.inl ⟨by omega, trivial⟩
  · subst e
    rw [show qwn 4 = 2002873452 by decide] at w3
    omega
  · exact Or.inr ⟨by omega, trivial⟩

-- wkn4_1
theorem cr_476 (M : pM) (s0 s1 : Int) (b0 : 0 ≤ s0 ∧ s0 ≤ 23) (b1 : 0 ≤ s1 ∧ s1 ≤ 9223372036854775807) (m0 : HP 140 (s0) (s1) M) (f0 : 0 ≤ (s1 - 2002873453)) (hG : gI M) : (0 ≤ ((-1) * s0 + 3) ∧ True) ∨ (0 ≤ (s0 - 5) ∧ True) := by
  obtain ⟨k, w1, w2, w3⟩ := Eq.mp hp_140 m0
  have hk : k < 4 ∨ k = 4 ∨ 4 < k := by omega
  rcases hk with e | e | e
  · exact Or.inl ⟨by omega, trivial⟩
  · subst e
    rw [show qwn 4 = 2002873452 by decide] at w3
    omega
  · exact Or.inr ⟨by omega, trivial⟩

-- wkn5_0
theorem cr_477 (M : pM) (s0 s1 : Int) (b0 : 0 ≤ s0 ∧ s0 ≤ 23) (b1 : 0 ≤ s1 ∧ s1 ≤ 9223372036854775807) (m0 : HP 140 (s0) (s1) M) (f0 : 0 ≤ ((-1) * s1 + 418263299684)) (hG : gI M) : (0 ≤ ((-1) * s0 + 4) ∧ True) ∨ (0 ≤ (s0 - 6) ∧ True) := by
  obtain ⟨k, w1, w2, w3⟩ := Eq.mp hp_140 m0
  have hk : k < 5 ∨ k = 5 ∨ 5 < k := by omega
  rcases hk with e | e | e
  · exact Or.inl ⟨by omega, trivial⟩
  · subst e
    rw [show qwn 5 = 418263299685 by decide] at w3
    omega
  · exact Or.inr ⟨by omega, trivial⟩

-- wkn5_1
theorem cr_478 (M : pM) (s0 s1 : Int) (b0 : 0 ≤ s0 ∧ s0 ≤ 23) (b1 : 0 ≤ s1 ∧ s1 ≤ 9223372036854775807) (m0 : HP 140 (s0) (s1) M) (f0 : 0 ≤ (s1 - 418263299686)) (hG : gI M) : (0 ≤ ((-1) * s0 + 4) ∧ True) ∨ (0 ≤ (s0 - 6) ∧ True) := by
  obtain ⟨k, w1, w2, w3⟩ := Eq.mp hp_140 m0
  have hk : k < 5 ∨ k = 5 ∨ 5 < k := by omega
  rcases hk with e | e | e
  · exact Or.inl ⟨by omega, trivial⟩
  · subst e
    rw [show qwn 5 = 418263299685 by decide] at w3
    omega
  · exact Or.inr ⟨by omega, trivial⟩

-- wkn6_0
theorem cr_479 (M : pM) (s0 s1 : Int) (b0 : 0 ≤ s0 ∧ s0 ≤ 23) (b1 : 0 ≤ s1 ∧ s1 ≤ 9223372036854775807) (m0 : HP 140 (s0) (s1) M) (f0 : 0 ≤ ((-1) * s1 + 1718775660)) (hG : gI M) : (0 ≤ ((-1) * s0 + 5) ∧ True) ∨ (0 ≤ (s0 - 7) ∧ True) := by
  obtain ⟨k, w1, w2, w3⟩ := Eq.mp hp_140 m0
  have hk : k < 6 ∨ k = 6 ∨ 6 < k := by omega
  rcases hk with e | e | e
  · exact Or.inl ⟨by omega, trivial⟩
  · subst e
    rw [show qwn 6 = 1718775661 by decide] at w3
    omega
  · exact Or.inr ⟨by omega, trivial⟩
