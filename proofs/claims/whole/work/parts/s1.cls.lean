/-! ===== LEVEL 3: the calls of acts that read no tape (printed by gen3/s1gen.py) ===== -/
section
variable {L i : Nat} {m : ev_M}
theorem lc_10 (H : II L i m) (hi : i ≤ 64) : LC_10 (II L (i + 1)) m := by
  unfold LC_10
  intro a b c d
  simp only [ec_2, em_2]
  refine ii_act H hi (by decide) (by decide) (by decide) (fun z => ef_2) (fun z => eg_2) (fun q s t F A hq hA hM h0 hR h1 h2 ha => ?_)
  · rw [dc_2 h1, dm_2 h2, ha 0 (by decide), ha 1 (by decide), ha 2 (by decide), ha 3 (by decide)]
    exact ac_2 hq hA hM h0 hR
theorem lc_11 (H : II L i m) (hi : i ≤ 64) : LC_11 (II L (i + 1)) m := by
  unfold LC_11
  intro a b c
  simp only [ec_3, em_3]
  refine ii_act H hi (by decide) (by decide) (by decide) (fun z => ef_3) (fun z => eg_3) (fun q s t F A hq hA hM h0 hR h1 h2 ha => ?_)
  · rw [dc_3 h1, dm_3 h2, ha 0 (by decide), ha 1 (by decide), ha 2 (by decide)]
    exact ac_3 hq hA hM h0 hR
theorem lc_20 (H : II L i m) (hi : i ≤ 64) : LC_20 (II L (i + 1)) m := by
  unfold LC_20
  intro a b c d e f
  simp only [ec_5, em_5]
  refine ii_act H hi (by decide) (by decide) (by decide) (fun z => ef_5) (fun z => eg_5) (fun q s t F A hq hA hM h0 hR h1 h2 ha => ?_)
  · rw [dc_5 h1, dm_5 h2, ha 0 (by decide), ha 1 (by decide), ha 2 (by decide), ha 3 (by decide), ha 4 (by decide), ha 5 (by decide)]
    exact ac_5 hq hA hM h0 hR
theorem lc_21 (H : II L i m) (hi : i ≤ 64) : LC_21 (II L (i + 1)) m := by
  unfold LC_21
  intro a b
  simp only [ec_6, em_6]
  refine ii_act H hi (by decide) (by decide) (by decide) (fun z => ef_6) (fun z => eg_6) (fun q s t F A hq hA hM h0 hR h1 h2 ha => ?_)
  · rw [dc_6 h1, dm_6 h2, ha 0 (by decide), ha 1 (by decide)]
    exact ac_6 hq hA hM h0 hR
theorem lc_22 (H : II L i m) (hi : i ≤ 64) : LC_22 (II L (i + 1)) m := by
  unfold LC_22
  intro a
  simp only [ec_7, em_7]
  refine ii_act H hi (by decide) (by decide) (by decide) (fun z => ef_7) (fun z => eg_7) (fun q s t F A hq hA hM h0 hR h1 h2 ha => ?_)
  · rw [dc_7 h1, dm_7 h2, ha 0 (by decide)]
    exact ac_7 hq hA hM h0 hR
theorem lc_23 (H : II L i m) (hi : i ≤ 64) : LC_23 (II L (i + 1)) m := by
  unfold LC_23
  intro a b c
  simp only [ec_8, em_8]
  refine ii_act H hi (by decide) (by decide) (by decide) (fun z => ef_8) (fun z => eg_8) (fun q s t F A hq hA hM h0 hR h1 h2 ha => ?_)
  · rw [dc_8 h1, dm_8 h2, ha 0 (by decide), ha 1 (by decide), ha 2 (by decide)]
    exact ac_8 hq hA hM h0 hR
theorem lc_24 (H : II L i m) (hi : i ≤ 64) : LC_24 (II L (i + 1)) m := by
  unfold LC_24
  intro a b
  simp only [ec_9, em_9]
  refine ii_act H hi (by decide) (by decide) (by decide) (fun z => ef_9) (fun z => eg_9) (fun q s t F A hq hA hM h0 hR h1 h2 ha => ?_)
  · rw [dc_9 h1, dm_9 h2, ha 0 (by decide), ha 1 (by decide)]
    exact ac_9 hq hA hM h0 hR
theorem lc_29 (H : II L i m) (hi : i ≤ 64) : LC_29 (II L (i + 1)) m := by
  unfold LC_29
  intro a b c d
  simp only [ec_10, em_10]
  refine ii_act H hi (by decide) (by decide) (by decide) (fun z => ef_10) (fun z => eg_10) (fun q s t F A hq hA hM h0 hR h1 h2 ha => ?_)
  · rw [dc_10 h1, dm_10 h2, ha 0 (by decide), ha 1 (by decide), ha 2 (by decide), ha 3 (by decide)]
    exact ac_10 hq hA hM h0 hR
theorem lc_30 (H : II L i m) (hi : i ≤ 64) : LC_30 (II L (i + 1)) m := by
  unfold LC_30
  intro a b c
  simp only [ec_11, em_11]
  refine ii_act H hi (by decide) (by decide) (by decide) (fun z => ef_11) (fun z => eg_11) (fun q s t F A hq hA hM h0 hR h1 h2 ha => ?_)
  · rw [dc_11 h1, dm_11 h2, ha 0 (by decide), ha 1 (by decide), ha 2 (by decide)]
    exact ac_11 hq hA hM h0 hR
theorem lc_31 (H : II L i m) (hi : i ≤ 64) : LC_31 (II L (i + 1)) m := by
  unfold LC_31
  intro a b
  simp only [ec_12, em_12]
  refine ii_act H hi (by decide) (by decide) (by decide) (fun z => ef_12) (fun z => eg_12) (fun q s t F A hq hA hM h0 hR h1 h2 ha => ?_)
  · rw [dc_12 h1, dm_12 h2, ha 0 (by decide), ha 1 (by decide)]
    exact ac_12 hq hA hM h0 hR
theorem lc_32 (H : II L i m) (hi : i ≤ 64) : LC_32 (II L (i + 1)) m := by
  unfold LC_32
  intro a
  simp only [ec_13, em_13]
  refine ii_act H hi (by decide) (by decide) (by decide) (fun z => ef_13) (fun z => eg_13) (fun q s t F A hq hA hM h0 hR h1 h2 ha => ?_)
  · rw [dc_13 h1, dm_13 h2, ha 0 (by decide)]
    exact ac_13 hq hA hM h0 hR
theorem lc_34 (H : II L i m) (hi : i ≤ 64) : LC_34 (II L (i + 1)) m := by
  unfold LC_34
  intro a
  simp only [ec_14, em_14]
  refine ii_act H hi (by decide) (by decide) (by decide) (fun z => ef_14) (fun z => eg_14) (fun q s t F A hq hA hM h0 hR h1 h2 ha => ?_)
  · rw [dc_14 h1, dm_14 h2, ha 0 (by decide)]
    exact ac_14 hq hA hM h0 hR
theorem lc_38 (H : II L i m) (hi : i ≤ 64) : LC_38 (II L (i + 1)) m := by
  unfold LC_38
  intro a
  simp only [ec_15, em_15]
  refine ii_act H hi (by decide) (by decide) (by decide) (fun z => ef_15) (fun z => eg_15) (fun q s t F A hq hA hM h0 hR h1 h2 ha => ?_)
  · rw [dc_15 h1, dm_15 h2, ha 0 (by decide)]
    exact ac_15 hq hA hM h0 hR
theorem lc_39 (H : II L i m) (hi : i ≤ 64) : LC_39 (II L (i + 1)) m := by
  unfold LC_39
  intro a b c d e
  simp only [ec_16, em_16]
  refine ii_act H hi (by decide) (by decide) (by decide) (fun z => ef_16) (fun z => eg_16) (fun q s t F A hq hA hM h0 hR h1 h2 ha => ?_)
  · rw [dc_16 h1, dm_16 h2, ha 0 (by decide), ha 1 (by decide), ha 2 (by decide), ha 3 (by decide), ha 4 (by decide)]
    exact ac_16 hq hA hM h0 hR
theorem lc_40 (H : II L i m) (hi : i ≤ 64) : LC_40 (II L (i + 1)) m := by
  unfold LC_40
  intro a b
  simp only [ec_17, em_17]
  refine ii_act H hi (by decide) (by decide) (by decide) (fun z => ef_17) (fun z => eg_17) (fun q s t F A hq hA hM h0 hR h1 h2 ha => ?_)
  · rw [dc_17 h1, dm_17 h2, ha 0 (by decide), ha 1 (by decide)]
    exact ac_17 hq hA hM h0 hR
theorem lc_41 (H : II L i m) (hi : i ≤ 64) : LC_41 (II L (i + 1)) m := by
  unfold LC_41
  intro a b
  simp only [ec_18, em_18]
  refine ii_act H hi (by decide) (by decide) (by decide) (fun z => ef_18) (fun z => eg_18) (fun q s t F A hq hA hM h0 hR h1 h2 ha => ?_)
  · rw [dc_18 h1, dm_18 h2, ha 0 (by decide), ha 1 (by decide)]
    exact ac_18 hq hA hM h0 hR
theorem lc_42 (H : II L i m) (hi : i ≤ 64) : LC_42 (II L (i + 1)) m := by
  unfold LC_42
  intro a b
  simp only [ec_19, em_19]
  refine ii_act H hi (by decide) (by decide) (by decide) (fun z => ef_19) (fun z => eg_19) (fun q s t F A hq hA hM h0 hR h1 h2 ha => ?_)
  · rw [dc_19 h1, dm_19 h2, ha 0 (by decide), ha 1 (by decide)]
    exact ac_19 hq hA hM h0 hR
theorem lc_43 (H : II L i m) (hi : i ≤ 64) : LC_43 (II L (i + 1)) m := by
  unfold LC_43
  intro a
  simp only [ec_20, em_20]
  refine ii_act H hi (by decide) (by decide) (by decide) (fun z => ef_20) (fun z => eg_20) (fun q s t F A hq hA hM h0 hR h1 h2 ha => ?_)
  · rw [dc_20 h1, dm_20 h2, ha 0 (by decide)]
    exact ac_20 hq hA hM h0 hR
theorem lc_44 (H : II L i m) (hi : i ≤ 64) : LC_44 (II L (i + 1)) m := by
  unfold LC_44
  intro a
  simp only [ec_21, em_21]
  refine ii_act H hi (by decide) (by decide) (by decide) (fun z => ef_21) (fun z => eg_21) (fun q s t F A hq hA hM h0 hR h1 h2 ha => ?_)
  · rw [dc_21 h1, dm_21 h2, ha 0 (by decide)]
    exact ac_21 hq hA hM h0 hR
theorem lc_47 (H : II L i m) (hi : i ≤ 64) : LC_47 (II L (i + 1)) m := by
  unfold LC_47
  intro a b c d
  simp only [ec_22, em_22]
  refine ii_act H hi (by decide) (by decide) (by decide) (fun z => ef_22) (fun z => eg_22) (fun q s t F A hq hA hM h0 hR h1 h2 ha => ?_)
  · rw [dc_22 h1, dm_22 h2, ha 0 (by decide), ha 1 (by decide), ha 2 (by decide), ha 3 (by decide)]
    exact ac_22 hq hA hM h0 hR
theorem lc_48 (H : II L i m) (hi : i ≤ 64) : LC_48 (II L (i + 1)) m := by
  unfold LC_48
  intro a
  simp only [ec_23, em_23]
  refine ii_act H hi (by decide) (by decide) (by decide) (fun z => ef_23) (fun z => eg_23) (fun q s t F A hq hA hM h0 hR h1 h2 ha => ?_)
  · rw [dc_23 h1, dm_23 h2, ha 0 (by decide)]
    exact ac_23 hq hA hM h0 hR
theorem lc_49 (H : II L i m) (hi : i ≤ 64) : LC_49 (II L (i + 1)) m := by
  unfold LC_49
  intro a
  simp only [ec_24, em_24]
  refine ii_act H hi (by decide) (by decide) (by decide) (fun z => ef_24) (fun z => eg_24) (fun q s t F A hq hA hM h0 hR h1 h2 ha => ?_)
  · rw [dc_24 h1, dm_24 h2, ha 0 (by decide)]
    exact ac_24 hq hA hM h0 hR
theorem lc_50 (H : II L i m) (hi : i ≤ 64) : LC_50 (II L (i + 1)) m := by
  unfold LC_50
  intro a b
  simp only [ec_25, em_25]
  refine ii_act H hi (by decide) (by decide) (by decide) (fun z => ef_25) (fun z => eg_25) (fun q s t F A hq hA hM h0 hR h1 h2 ha => ?_)
  · rw [dc_25 h1, dm_25 h2, ha 0 (by decide), ha 1 (by decide)]
    exact ac_25 hq hA hM h0 hR
theorem lc_51 (H : II L i m) (hi : i ≤ 64) : LC_51 (II L (i + 1)) m := by
  unfold LC_51
  intro a b c d
  simp only [ec_26, em_26]
  refine ii_act H hi (by decide) (by decide) (by decide) (fun z => ef_26) (fun z => eg_26) (fun q s t F A hq hA hM h0 hR h1 h2 ha => ?_)
  · rw [dc_26 h1, dm_26 h2, ha 0 (by decide), ha 1 (by decide), ha 2 (by decide), ha 3 (by decide)]
    exact ac_26 hq hA hM h0 hR
theorem lc_52 (H : II L i m) (hi : i ≤ 64) : LC_52 (II L (i + 1)) m := by
  unfold LC_52
  intro a b
  simp only [ec_27, em_27]
  refine ii_act H hi (by decide) (by decide) (by decide) (fun z => ef_27) (fun z => eg_27) (fun q s t F A hq hA hM h0 hR h1 h2 ha => ?_)
  · rw [dc_27 h1, dm_27 h2, ha 0 (by decide), ha 1 (by decide)]
    exact ac_27 hq hA hM h0 hR
theorem lc_53 (H : II L i m) (hi : i ≤ 64) : LC_53 (II L (i + 1)) m := by
  unfold LC_53
  intro a
  simp only [ec_28, em_28]
  refine ii_act H hi (by decide) (by decide) (by decide) (fun z => ef_28) (fun z => eg_28) (fun q s t F A hq hA hM h0 hR h1 h2 ha => ?_)
  · rw [dc_28 h1, dm_28 h2, ha 0 (by decide)]
    exact ac_28 hq hA hM h0 hR
theorem lc_54 (H : II L i m) (hi : i ≤ 64) : LC_54 (II L (i + 1)) m := by
  unfold LC_54
  intro a
  simp only [ec_29, em_29]
  refine ii_act H hi (by decide) (by decide) (by decide) (fun z => ef_29) (fun z => eg_29) (fun q s t F A hq hA hM h0 hR h1 h2 ha => ?_)
  · rw [dc_29 h1, dm_29 h2, ha 0 (by decide)]
    exact ac_29 hq hA hM h0 hR
theorem lc_55 (H : II L i m) (hi : i ≤ 64) : LC_55 (II L (i + 1)) m := by
  unfold LC_55
  intro a b
  simp only [ec_30, em_30]
  refine ii_act H hi (by decide) (by decide) (by decide) (fun z => ef_30) (fun z => eg_30) (fun q s t F A hq hA hM h0 hR h1 h2 ha => ?_)
  · rw [dc_30 h1, dm_30 h2, ha 0 (by decide), ha 1 (by decide)]
    exact ac_30 hq hA hM h0 hR
theorem lc_60 (H : II L i m) (hi : i ≤ 64) : LC_60 (II L (i + 1)) m := by
  unfold LC_60
  intro a
  simp only [ec_32, em_32]
  refine ii_act H hi (by decide) (by decide) (by decide) (fun z => ef_32) (fun z => eg_32) (fun q s t F A hq hA hM h0 hR h1 h2 ha => ?_)
  · rw [dc_32 h1, dm_32 h2, ha 0 (by decide)]
    exact ac_32 hq hA hM h0 hR
theorem lc_61 (H : II L i m) (hi : i ≤ 64) : LC_61 (II L (i + 1)) m := by
  unfold LC_61
  intro a b c
  simp only [ec_33, em_33]
  refine ii_act H hi (by decide) (by decide) (by decide) (fun z => ef_33) (fun z => eg_33) (fun q s t F A hq hA hM h0 hR h1 h2 ha => ?_)
  · rw [dc_33 h1, dm_33 h2, ha 0 (by decide), ha 1 (by decide), ha 2 (by decide)]
    exact ac_33 hq hA hM h0 hR
theorem lc_62 (H : II L i m) (hi : i ≤ 64) : LC_62 (II L (i + 1)) m := by
  unfold LC_62
  intro a b c
  simp only [ec_34, em_34]
  refine ii_act H hi (by decide) (by decide) (by decide) (fun z => ef_34) (fun z => eg_34) (fun q s t F A hq hA hM h0 hR h1 h2 ha => ?_)
  · rw [dc_34 h1, dm_34 h2, ha 0 (by decide), ha 1 (by decide), ha 2 (by decide)]
    exact ac_34 hq hA hM h0 hR
theorem lc_64 (H : II L i m) (hi : i ≤ 64) : LC_64 (II L (i + 1)) m := by
  unfold LC_64
  intro a b
  simp only [ec_35, em_35]
  refine ii_act H hi (by decide) (by decide) (by decide) (fun z => ef_35) (fun z => eg_35) (fun q s t F A hq hA hM h0 hR h1 h2 ha => ?_)
  · rw [dc_35 h1, dm_35 h2, ha 0 (by decide), ha 1 (by decide)]
    exact ac_35 hq hA hM h0 hR
theorem lc_65 (H : II L i m) (hi : i ≤ 64) : LC_65 (II L (i + 1)) m := by
  unfold LC_65
  intro a b
  simp only [ec_36, em_36]
  refine ii_act H hi (by decide) (by decide) (by decide) (fun z => ef_36) (fun z => eg_36) (fun q s t F A hq hA hM h0 hR h1 h2 ha => ?_)
  · rw [dc_36 h1, dm_36 h2, ha 0 (by decide), ha 1 (by decide)]
    exact ac_36 hq hA hM h0 hR
theorem lc_67 (H : II L i m) (hi : i ≤ 64) : LC_67 (II L (i + 1)) m := by
  unfold LC_67
  intro a b
  simp only [ec_37, em_37]
  refine ii_act H hi (by decide) (by decide) (by decide) (fun z => ef_37) (fun z => eg_37) (fun q s t F A hq hA hM h0 hR h1 h2 ha => ?_)
  · rw [dc_37 h1, dm_37 h2, ha 0 (by decide), ha 1 (by decide)]
    exact ac_37 hq hA hM h0 hR
theorem lc_68 (H : II L i m) (hi : i ≤ 64) : LC_68 (II L (i + 1)) m := by
  unfold LC_68
  intro a b c d
  simp only [ec_38, em_38]
  refine ii_act H hi (by decide) (by decide) (by decide) (fun z => ef_38) (fun z => eg_38) (fun q s t F A hq hA hM h0 hR h1 h2 ha => ?_)
  · rw [dc_38 h1, dm_38 h2, ha 0 (by decide), ha 1 (by decide), ha 2 (by decide), ha 3 (by decide)]
    exact ac_38 hq hA hM h0 hR
theorem lc_72 (H : II L i m) (hi : i ≤ 64) : LC_72 (II L (i + 1)) m := by
  unfold LC_72
  intro a
  simp only [ec_40, em_40]
  refine ii_act H hi (by decide) (by decide) (by decide) (fun z => ef_40) (fun z => eg_40) (fun q s t F A hq hA hM h0 hR h1 h2 ha => ?_)
  · rw [dc_40 h1, dm_40 h2, ha 0 (by decide)]
    exact ac_40 hq hA hM h0 hR
end
