theorem acc_dok {D E : DD} {b x y z : Nat} (hD : dok D) (h : accN D b x y z = some E) : dok E := by
  obtain ⟨d1, d2, d3, d4, d5, d6, d7, d8, d9⟩ := hD
  unfold accN at h
  split at h
  · split at h
    · rename_i q; cases h
      refine ⟨d1, d2, ?_, d4, d5, d6, d7, ?_, ?_⟩
      · dsimp only; rw [up2_s]; omega
      · intro i hi
        dsimp only
        rw [up2_n (by omega), up2_n (by omega), up2_n (by omega), up2_n (by omega)]; exact d8 i hi
      · intro k hk
        have hk : k < D.2 0 0 + 1 := by
          have e : (up2 (up2 (up2 (up2 D.2 2 (D.2 0 0) x) 3 (D.2 0 0) y) 4 (D.2 0 0) z) 0 0 (D.2 0 0 + 1)) 0 0 = D.2 0 0 + 1 := up2_s
          have hk2 : k < (up2 (up2 (up2 (up2 D.2 2 (D.2 0 0) x) 3 (D.2 0 0) y) 4 (D.2 0 0) z) 0 0 (D.2 0 0 + 1)) 0 0 := hk
          omega
        dsimp only
        by_cases e : k = D.2 0 0
        · subst e
          rw [up2_n (by omega), up2_n (by omega), up2_n (by omega), up2_s, up2_n (by omega), up2_n (by omega), up2_s, up2_n (by omega), up2_s]
          omega
        · rw [up2_n (by omega), up2_n (by omega), up2_n (by omega), up2_n (by omega), up2_n (by omega), up2_n (by omega), up2_n (by omega), up2_n (by omega), up2_n (by omega), up2_n (by omega), up2_n (by omega), up2_n (by omega)]
          exact d9 k (by omega)
    · cases h
  split at h
  · split at h
    · rename_i q; cases h
      refine ⟨?_, ?_, d3, ?_, ?_, ?_, ?_, ?_, ?_⟩
      · dsimp only; rw [up2_s]; omega
      · dsimp only; rw [up2_n (by omega), up2_n (by omega), up2_n (by omega)]; exact d2
      · dsimp only; rw [up2_n (by omega), up2_n (by omega), up2_n (by omega)]; exact d4
      · dsimp only; rw [up2_n (by omega), up2_n (by omega), up2_n (by omega)]; exact d5
      · dsimp only; rw [up2_n (by omega), up2_n (by omega), up2_n (by omega)]; exact d6
      · intro k hk
        have hk : k < D.1 0 0 + 1 := by
          have e : (up2 (up2 (up2 D.1 4 (D.1 0 0) x) 5 (D.1 0 0) y) 0 0 (D.1 0 0 + 1)) 0 0 = D.1 0 0 + 1 := up2_s
          have hk2 : k < (up2 (up2 (up2 D.1 4 (D.1 0 0) x) 5 (D.1 0 0) y) 0 0 (D.1 0 0 + 1)) 0 0 := hk
          omega
        dsimp only
        by_cases e : k = D.1 0 0
        · subst e
          rw [up2_n (by omega), up2_n (by omega), up2_s, up2_n (by omega), up2_s]; omega
        · rw [up2_n (by omega), up2_n (by omega), up2_n (by omega), up2_n (by omega), up2_n (by omega), up2_n (by omega)]
          exact d7 k (by omega)
      · intro i hi
        have hi2 : i < up2 (up2 (up2 D.1 4 (D.1 0 0) x) 5 (D.1 0 0) y) 0 0 (D.1 0 0 + 1) 1 0 := hi
        rw [up2_n (by omega), up2_n (by omega), up2_n (by omega)] at hi2
        dsimp only
        rw [up2_n (by omega), up2_n (by omega), up2_n (by omega), up2_n (by omega), up2_n (by omega), up2_n (by omega)]
        exact d8 i hi2
      · intro k hk
        dsimp only
        rw [up2_n (by omega), up2_n (by omega), up2_n (by omega)]
        exact d9 k hk
    · cases h
  split at h
  · split at h
    · rename_i q; cases h
      refine ⟨?_, ?_, ?_, ?_, ?_, ?_, ?_, ?_, ?_⟩
      · dsimp only; rw [up2_n (by omega), up2_n (by omega), up2_n (by omega)]; exact d1
      · dsimp only; rw [up2_s]; omega
      · dsimp only; rw [up2_n (by omega)]; exact d3
      · dsimp only; rw [up2_n (by omega), up2_n (by omega), up2_n (by omega)]; exact d4
      · dsimp only; rw [up2_n (by omega), up2_n (by omega), up2_n (by omega)]; exact d5
      · dsimp only; rw [up2_n (by omega), up2_n (by omega), up2_n (by omega)]; exact d6
      · intro k hk
        have hk2 : k < up2 (up2 (up2 D.1 6 (D.1 1 0) y) 7 (D.1 1 0) z) 1 0 (D.1 1 0 + 1) 0 0 := hk
        rw [up2_n (by omega), up2_n (by omega), up2_n (by omega)] at hk2
        dsimp only
        rw [up2_n (by omega), up2_n (by omega), up2_n (by omega), up2_n (by omega), up2_n (by omega), up2_n (by omega)]
        exact d7 k hk2
      · intro i hi
        have hi2 : i < up2 (up2 (up2 D.1 6 (D.1 1 0) y) 7 (D.1 1 0) z) 1 0 (D.1 1 0 + 1) 1 0 := hi
        rw [up2_s] at hi2
        dsimp only
        by_cases e : i = D.1 1 0
        · subst e
          rw [up2_s, up2_n (by omega), up2_n (by omega), up2_s, up2_n (by omega), up2_s]; omega
        · rw [up2_n (by omega), up2_n (by omega), up2_n (by omega), up2_n (by omega), up2_n (by omega), up2_n (by omega), up2_n (by omega)]
          exact d8 i (by omega)
      · intro k hk
        have hk2 : k < up2 D.2 1 (D.1 1 0) x 0 0 := hk
        rw [up2_n (by omega)] at hk2
        dsimp only
        rw [up2_s, up2_n (by omega), up2_n (by omega), up2_n (by omega)]
        have := d9 k hk2
        omega
    · cases h
  split at h
  · split at h
    · rename_i q; cases h
      refine ⟨?_, ?_, d3, ?_, ?_, ?_, ?_, ?_, ?_⟩
      · dsimp only; rw [up2_n (by omega)]; exact d1
      · dsimp only; rw [up2_n (by omega)]; exact d2
      · dsimp only; rw [up2_n (by omega)]; exact d4
      · dsimp only; rw [up2_s]; omega
      · dsimp only; rw [up2_s]; omega
      · intro k hk
        have hk2 : k < up2 D.1 3 0 x 0 0 := hk
        rw [up2_n (by omega)] at hk2
        dsimp only
        rw [up2_n (by omega), up2_n (by omega)]
        exact d7 k hk2
      · intro i hi
        have hi2 : i < up2 D.1 3 0 x 1 0 := hi
        rw [up2_n (by omega)] at hi2
        dsimp only
        rw [up2_n (by omega), up2_n (by omega)]
        exact d8 i hi2
      · intro k hk
        dsimp only
        rw [up2_n (by omega)]
        exact d9 k hk
    · cases h
  split at h
  · split at h
    · rename_i q; cases h
      refine ⟨?_, ?_, d3, ?_, ?_, ?_, ?_, ?_, ?_⟩
      · dsimp only; rw [up2_n (by omega)]; exact d1
      · dsimp only; rw [up2_n (by omega)]; exact d2
      · dsimp only; rw [up2_s]; omega
      · dsimp only; rw [up2_n (by omega)]; exact d5
      · dsimp only; rw [up2_n (by omega)]; exact d6
      · intro k hk
        have hk2 : k < up2 D.1 2 0 x 0 0 := hk
        rw [up2_n (by omega)] at hk2
        dsimp only
        rw [up2_n (by omega), up2_n (by omega)]
        exact d7 k hk2
      · intro i hi
        have hi2 : i < up2 D.1 2 0 x 1 0 := hi
        rw [up2_n (by omega)] at hi2
        dsimp only
        rw [up2_n (by omega), up2_n (by omega)]
        exact d8 i hi2
      · intro k hk
        dsimp only
        rw [up2_n (by omega)]
        exact d9 k hk
    · cases h
  · cases h
