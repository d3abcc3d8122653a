theorem woS_14 {S : Nat → Nat → Int32} {w up : Int32} {c : Nat} : woS S w up c 0 14 = bI (¬ rng w 0 3) := by
  have e : wo1 S w.toNatClampNeg up 0 14 = nI 0 := by
    unfold wo1
    rw [xu_k _ _ _ (by decide), xu_k _ _ _ (by decide), xu_k _ _ _ (by decide), xu_s]
  unfold woS
  by_cases h : rng w 0 3
  · rw [if_pos h, bI_f (fun n => n h)]
    split
    · exact xu_s _ _ _ _
    · split
      · split
        · exact e
        · split
          · rw [gvS_k _ _ _ (by decide) (by decide), loL_keep (by decide) (by omega)]; exact e
          · rw [loL_keep (by decide) (by omega)]; exact e
      · rw [xu_k _ _ _ (by decide), xu_s]
  · rw [if_neg h, bI_t h, xu_s]
